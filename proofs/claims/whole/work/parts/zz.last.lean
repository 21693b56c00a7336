-- DRAFT 61.arr.lean
/-! Stretches of arrays that are copied; rows as lists; what a call leaves. -/
noncomputable section
def acS (σ : Sg) (A a B b : Nat) (i n : Nat) : Sg := fun c k => if c = A ∧ a + i ≤ k ∧ k < a + n then σ B (b + (k - a)) else σ c k
theorem acS_end {σ : Sg} {A a B b n : Nat} : acS σ A a B b n n = σ := by
  funext c k
  unfold acS
  rw [if_neg (by omega)]
theorem acS_step {σ : Sg} {A a B b i n : Nat} (h : i < n) (hAB : ¬ B = A) : acS (upS σ A (a + i) (σ B (b + i))) A a B b (i + 1) n = acS σ A a B b i n := by
  funext c k
  unfold acS
  rw [up_a hAB]
  by_cases hc : c = A
  · by_cases hk : k = a + i
    · rw [if_neg (by omega), if_pos ⟨hc, by omega, by omega⟩, hc, hk, up_s, show a + i - a = i by omega]
    · by_cases h2 : a + (i + 1) ≤ k ∧ k < a + n
      · rw [if_pos ⟨hc, h2⟩, if_pos ⟨hc, by omega, h2.2⟩]
      · rw [if_neg (fun e => h2 e.2), if_neg (by omega), up_k hk]
  · rw [if_neg (fun e => hc e.1), if_neg (fun e => hc e.1), up_a hc]
theorem acS_off {σ : Sg} {A a B b i n c k : Nat} (h : ¬ c = A) : acS σ A a B b i n c k = σ c k := by
  unfold acS
  rw [if_neg (fun e => h e.1)]
theorem acS_val {σ : Sg} {A a B b n j : Nat} (h : j < n) : acS σ A a B b 0 n A (a + j) = σ B (b + j) := by
  unfold acS
  rw [if_pos ⟨rfl, by omega, by omega⟩, show a + j - a = j by omega]
theorem acS_out {σ : Sg} {A a B b n c k : Nat} (h : ¬ (a ≤ k ∧ k < a + n)) : acS σ A a B b 0 n c k = σ c k := by
  unfold acS
  rw [if_neg (by omega)]
theorem row_lt {a : Nat} (h : isRow a = true) : a < 682 := by
  have h1 : ∀ a, a < 727 → isRow a = true → a < 682 := by decide +kernel
  by_cases ha : a < 727
  · exact h1 a ha h
  · exfalso
    unfold isRow at h
    rw [List.getElem?_eq_none (show SH0.length ≤ a by
      have : SH0.length = 727 := by decide +kernel
      omega)] at h
    simp at h
theorem WF_fr {σ s : Sg} (h : ∀ a k, a < 682 → s a k = σ a k) (H : WF σ) : WF s := by
  intro a ha
  rw [h a 1 (row_lt ha)]
  exact H a ha
/-- one row alone is another one -/
theorem WF_row {σ s : Sg} {r : Nat} (h : ∀ a, isRow a = true → ¬ a = r → s a 1 = σ a 1) (hr : 0 ≤ s r 1 ∧ s r 1 ≤ (cap r : Int)) (H : WF σ) : WF s := by
  intro a ha
  by_cases e : a = r
  · rw [e]; exact hr
  · rw [h a ha e]; exact H a ha
theorem row_nx {a b : Nat} (ha : isRow a = true) (hb : isRow b = true) : ¬ b = a + 1 := by
  intro e
  subst e
  unfold isRow at ha hb
  simp only [Bool.and_eq_true, decide_eq_true_eq] at ha hb
  have e := hb.1.symm.trans ha.2
  simp at e
theorem op_fin {w m : Nat} {aw am : List AV} {σ s1 s2 : Sg} {c kx b : Int} (hA : Dd w aw σ (rI kx s1)) (hB : Dd m am s1 (rI b s2)) (ht : s2 682 0 = kx) (hv : kx = 0 → s2 726 0 = b) (f1 : ∀ a k, 727 ≤ a → s1 a k = σ a k) (f2 : ∀ a k, 727 ≤ a → s2 a k = σ a k) (R : Rel c s2) : OpR w m aw am σ c :=
  ⟨kx, b, s1, s2, hA, hB, ht, hv, fun i => f1 _ _ (by unfold SCR; omega), f1 _ _ (by unfold SCR; omega), fun i => f2 _ _ (by unfold SCR; omega), f2 _ _ (by unfold SCR; omega), R⟩
theorem op_finB {w m : Nat} {aw am : List AV} {σ s1 s2 : Sg} {c kx b : Int} (hA : Dd w aw σ (rI kx s1)) (hB : Dd m am s1 (rI b s2)) (ht : s2 682 0 = kx) (hv : kx = 0 → s2 726 0 = (if b = 0 then 0 else 1)) (f1 : ∀ a k, 727 ≤ a → s1 a k = σ a k) (f2 : ∀ a k, 727 ≤ a → s2 a k = σ a k) (R : Rel c s2) : OpB w m aw am σ c :=
  ⟨kx, b, s1, s2, hA, hB, ht, hv, fun i => f1 _ _ (by unfold SCR; omega), f1 _ _ (by unfold SCR; omega), fun i => f2 _ _ (by unfold SCR; omega), f2 _ _ (by unfold SCR; omega), R⟩
/-- a row holds a list -/
def Rw (σ : Sg) (a : Nat) (l : List Int) : Prop := σ a 1 = (l.length : Nat) ∧ ∀ i v, l[i]? = some v → σ (a + 1) i = v
def rl (σ : Sg) (a : Nat) : List Int := (List.range (σ a 1).toNat).map (fun i => σ (a + 1) i)
theorem Rw_rl {σ : Sg} {a : Nat} (h : 0 ≤ σ a 1) : Rw σ a (rl σ a) := by
  refine ⟨?_, fun i v hv => ?_⟩
  · unfold rl
    rw [List.length_map, List.length_range]
    omega
  · unfold rl at hv
    rw [List.getElem?_map] at hv
    by_cases hi : i < (σ a 1).toNat
    · rw [List.getElem?_range hi] at hv
      simpa using hv
    · rw [List.getElem?_eq_none (by rw [List.length_range]; omega)] at hv
      simp at hv
theorem Rw_fr {σ s : Sg} {a : Nat} {l : List Int} (h1 : s a 1 = σ a 1) (h2 : ∀ i, s (a + 1) i = σ (a + 1) i) (H : Rw σ a l) : Rw s a l :=
  ⟨by rw [h1]; exact H.1, fun i v hv => by rw [h2]; exact H.2 i v hv⟩
def lat (l : List Int) (i : Int) : Int := if 0 ≤ i then (l[i.toNat]?).getD (-1) else -1
theorem atS_l {σ : Sg} {a : Nat} {l : List Int} {i : Int} (H : Rw σ a l) : atS σ a i = lat l i := by
  obtain ⟨h1, h2⟩ := H
  unfold atS lat
  by_cases h0 : 0 ≤ i
  · rw [if_pos h0]
    by_cases hi : i < σ a 1
    · rw [if_pos ⟨h0, hi⟩]
      have hl : i.toNat < l.length := by omega
      rw [List.getElem?_eq_getElem hl]
      exact h2 _ _ (List.getElem?_eq_getElem hl)
    · rw [if_neg (fun e => hi e.2), List.getElem?_eq_none (by omega)]
      rfl
  · rw [if_neg (fun e => h0 e.1), if_neg h0]
theorem Rw_ad {σ : Sg} {a : Nat} {l : List Int} {v : Int} (H : Rw σ a l) (hc : l.length < cap a) : Rw (adS σ a v) a (l ++ [v]) := by
  obtain ⟨h1, h2⟩ := H
  unfold adS
  rw [if_pos (by omega)]
  refine ⟨?_, fun i w hw => ?_⟩
  · rw [up_s, h1, List.length_append]
    simp
  · rw [up_a (by omega)]
    by_cases hi : i < l.length
    · rw [List.getElem?_append_left hi] at hw
      rw [up_k (by omega)]
      exact h2 i w hw
    · have hle : (l ++ [v]).length = l.length + 1 := by simp
      have hi2 := (List.getElem?_eq_some_iff.mp hw).1
      have e : i = l.length := by omega
      rw [e, List.getElem?_append_right (Nat.le_refl _), Nat.sub_self] at hw
      have hw : v = w := by simpa using hw
      rw [show i = (σ a 1).toNat by omega, up_s, hw]
theorem Rw_wR {σ : Sg} {a : Nat} {l : List Int} (ha : isRow a = true) (H : Rw σ a l) (hc : l.length ≤ cap a) : wR σ a := ⟨ha, by rw [H.1]; omega, by rw [H.1]; omega⟩
theorem d152 {σ : Sg} {a : Nat} (ha : isRow a = true) : Dd 152 [vA a] σ (rV (upS σ a 1 0)) := b152 ha rfl
theorem Rw_nil {σ : Sg} {a : Nat} : Rw (upS σ a 1 0) a [] := ⟨by rw [up_s]; rfl, fun i v h => by simp at h⟩
theorem l154 {a b : Nat} (ha : isRow a = true) (hb : isRow b = true) {d2 : Option AV} {e : Int} : ∀ (d i : Nat) (σ : Sg) (la lb : List Int), Rw σ a la → Rw σ b lb → lb.length ≤ cap b → lb.length < 100000 → ¬ a = b → (min e.toNat lb.length) ≤ i + d → la.length + ((lb.take e.toNat).drop i).length ≤ cap a → ∃ s, C154_7 a b d2 e i σ (rV s) ∧ Rw s a (la ++ (lb.take e.toNat).drop i) ∧ ∀ c k, ¬ c = a → ¬ c = a + 1 → s c k = σ c k := by
  intro d
  induction d with
  | zero =>
    intro i σ la lb hA hB hcb hsm hne hd hr
    have hn : (lb.take e.toNat).drop i = [] := List.drop_eq_nil_of_le (by rw [List.length_take]; exact hd)
    refine ⟨σ, b154_7 hb ha ?_, by rw [hn, List.append_nil]; exact hA, fun _ _ _ _ => rfl⟩
    by_cases h1 : (i : Int) < e
    · rw [if_pos h1, if_neg]
      rw [hB.1]
      have : ¬ i < lb.length := by
        intro hh
        have h3 : min e.toNat lb.length ≤ i := hd
        omega
      omega
    · rw [if_neg h1]
  | succ d ih =>
    intro i σ la lb hA hB hcb hsm hne hd hr
    by_cases h1 : (i : Int) < e ∧ i < lb.length
    · have hlt : i < (lb.take e.toNat).length := by rw [List.length_take]; omega
      have hdr : (lb.take e.toNat).drop i = lb[i] :: (lb.take e.toNat).drop (i + 1) := by
        rw [List.drop_eq_getElem_cons hlt, List.getElem_take]
      rw [hdr] at hr ⊢
      have hc : la.length < cap a := by
        rw [List.length_cons] at hr
        omega
      have hv : atS σ b (i : Int) = lb[i] := by
        rw [atS_l hB]
        unfold lat
        rw [if_pos (by omega), show ((i : Int)).toNat = i by omega, List.getElem?_eq_getElem h1.2]
        rfl
      have hB' : Rw (adS σ a lb[i]) b lb := Rw_fr (ad_off (fun e => hne e.symm) (row_nx ha hb)) (fun k => ad_off (row_nx hb ha ∘ fun e => e.symm) (by omega)) hB
      obtain ⟨s, g1, g2, g3⟩ := ih (i + 1) (adS σ a lb[i]) (la ++ [lb[i]]) lb (Rw_ad hA hc) hB' hcb hsm hne (by omega) (by
        rw [List.length_append]
        simp only [List.length_cons, List.length_nil] at hr ⊢
        omega)
      refine ⟨s, b154_7 hb ha ?_, by rw [List.append_assoc] at g2; exact g2, fun c k h2 h3 => by rw [g3 c k h2 h3, ad_off h2 h3]⟩
      rw [if_pos h1.1, if_pos (by rw [hB.1]; omega)]
      have d1 := d147 (i := (i : Int)) (Rw_wR hb hB hcb)
      rw [hv] at d1
      refine ⟨_, _, d1, _, d149 (Rw_wR ha hA (by omega)), by omega, ?_⟩
      rw [show (i : Int) + 1 = ((i + 1 : Nat) : Int) by omega]
      exact g1
    · have hn : (lb.take e.toNat).drop i = [] := List.drop_eq_nil_of_le (by rw [List.length_take]; omega)
      refine ⟨σ, b154_7 hb ha ?_, by rw [hn, List.append_nil]; exact hA, fun _ _ _ _ => rfl⟩
      by_cases h2 : (i : Int) < e
      · rw [if_pos h2, if_neg]
        rw [hB.1]
        omega
      · rw [if_neg h2]
/-- Row.addAll -/
theorem d154 {a b : Nat} (ha : isRow a = true) (hb : isRow b = true) {x y : Int} {σ : Sg} {la lb : List Int} (hA : Rw σ a la) (hB : Rw σ b lb) (hcb : lb.length ≤ cap b) (hne : ¬ a = b) (hr : la.length + ((lb.take y.toNat).drop x.toNat).length ≤ cap a) : ∃ s, Dd 154 [vA a, vA b, vI x, vI y] σ (rV s) ∧ Rw s a (la ++ (lb.take y.toNat).drop x.toNat) ∧ ∀ c k, ¬ c = a → ¬ c = a + 1 → s c k = σ c k := by
  have hsm := cap_le hb
  obtain ⟨s, g1, g2, g3⟩ := l154 ha hb (d2 := some (vI x)) (e := y) (lb.length) x.toNat σ la lb hA hB hcb (by omega) hne (by
    show min y.toNat lb.length ≤ _
    omega) hr
  refine ⟨s, b154 ?_, g2, g3⟩
  have e : (if 0 < x then x else 0) = ((x.toNat : Nat) : Int) := by
    split <;> omega
  rw [e]
  exact g1
end
-- DRAFT 62.base.lean
/-! setBase. -/
noncomputable section
theorem p200 {σ : Sg} {c t : Int} (H : Rel c σ) (ht : 0 ≤ t ∧ t < 4) (h0 : σ 402 3 = 0) : Dd 200 [vA 0, vI t] σ (rI (σ (2 + 2 * t.toNat) 1) (bcS σ 403 (2 + 2 * t.toNat))) := by
  have hr := (el_1 ht).2
  refine b200 (Or.inl ⟨_, _, d227_ok ht, hr, ?_⟩)
  rw [if_neg (by omega)]
  have d1 := d146 (σ := bcS σ 403 (2 + 2 * t.toNat)) hr
  rw [bc_off (by omega) (by omega)] at d1
  exact ⟨_, d155 (by decide +kernel) (WF_w H.1 hr), _, _, d1, rfl⟩
theorem l343 {t : Nat} (ht : t < 4) {n : Nat} (hn : n ≤ 16) : ∀ (d i : Nat) (σ : Sg), σ 682 39 = ((n : Nat) : Int) → i + d = n → C343_44 t i σ (rI (n : Nat) (acS σ 710 0 683 (16 * t) i n)) := by
  intro d
  induction d with
  | zero =>
    intro i σ h1 h2
    refine b343_44 ?_
    rw [if_neg (by omega), show i = n by omega, acS_end, h1]
  | succ d ih =>
    intro i σ h1 h2
    refine b343_44 ?_
    rw [if_pos (by omega)]
    refine ⟨by omega, by omega, by omega, by omega, by omega, ?_⟩
    have e := ih (i + 1) (upS σ 710 (0 + i) (σ 683 (16 * t + i))) (by rw [up_a (by decide)]; exact h1) (by omega)
    rw [acS_step (by omega) (by decide)] at e
    rw [show ((i : Int)).toNat = 0 + i by omega, show ((16 * (t : Int)) + (i : Int)).toNat = 16 * t + i by omega, show (i : Int) + 1 = ((i + 1 : Nat) : Int) by omega]
    exact e
theorem p343 {σ : Sg} {t : Int} (ht : 0 ≤ t ∧ t < 4) (h0 : σ 682 40 = 0) {n : Nat} (hn : σ 684 t.toNat = (n : Nat)) (h16 : n ≤ 16) : Dd 343 [vA 682, vI t] σ (rI (n : Nat) (acS (upS (upS σ 682 0 0) 682 39 (n : Nat)) 710 0 683 (16 * t.toNat) 0 n)) := by
  refine b343 ⟨_, _, d247_ok ht, ?_⟩
  rw [if_neg (show ¬ (1 : Int) = 0 by decide), if_neg (show ¬ 0 < σ 682 40 by omega)]
  refine b343_24 ⟨_, _, d245, ?_⟩
  rw [if_pos rfl, if_neg (show ¬ (1 : Int) = 0 by decide), up_a (show ¬ 684 = 682 by decide), hn]
  have e := l343 (t := t.toNat) (by omega) h16 n 0 (upS (upS σ 682 0 0) 682 39 (n : Nat)) up_s (by omega)
  rw [show ((t.toNat : Nat) : Int) = t by omega] at e
  exact ⟨by omega, e⟩
theorem o28 {σ : Sg} {c a1 : Int} (H : Rel c σ) : OpR 417 343 [vA 0, vI a1, vA 726] [vA 682, vI a1] σ (c + 1) := by
  by_cases g1 : a1 < 0
  · exact x28_0 H g1
  by_cases g2 : 4 ≤ a1
  · exact x28_1 H g2
  have k1 : 0 ≤ a1 ∧ a1 < 4 := by omega
  have hn := (rel_n H).2.1
  have hr1 := (el_1 k1).2
  by_cases g3 : 0 < σ 402 3
  · have hA : Dd 200 [vA 0, vI a1] σ (rX 2 σ) := by
      refine b200 (Or.inl ⟨_, _, d227_ok k1, hr1, ?_⟩)
      rw [if_pos g3]
    have hB : Dd 343 [vA 682, vI a1] σ (rI 0 (upS σ 682 0 2)) := by
      refine b343 ⟨_, _, d247_ok k1, ?_⟩
      rw [if_neg (show ¬ (1 : Int) = 0 by decide), if_pos (show 0 < σ 682 40 by omega)]
      refine b343_24 ⟨_, _, d245, ?_⟩
      rw [if_neg (show ¬ (2 : Int) = 0 by decide), if_pos rfl]
    exact op_x H (by decide) (b417 (Or.inr (Or.inr ⟨_, hA, rfl⟩))) hB
  have g0 : σ 402 3 = 0 := by omega
  obtain ⟨r1, r2, r3⟩ := rel_t H k1
  obtain ⟨n, hn1⟩ := Int.eq_ofNat_of_zero_le r2
  have hA := b417 (Or.inl ⟨_, _, p200 H k1 g0, rfl⟩)
  have hcp : σ (2 + 2 * a1.toNat) 1 ≤ (cap 403 : Int) := by
    have : cap 403 = 16 := by decide +kernel
    omega
  have q0 : ∀ c k, ¬ c = 403 → ¬ c = 404 → ¬ c = 726 → upS (bcS σ 403 (2 + 2 * a1.toNat)) 726 0 (σ (2 + 2 * a1.toNat) 1) c k = σ c k := fun c k h1 h2 h3 => by rw [up_a h3, bc_off h1 h2]
  have hB := p343 (σ := upS (bcS σ 403 (2 + 2 * a1.toNat)) 726 0 (σ (2 + 2 * a1.toNat) 1)) k1 (by rw [q0 _ _ (by decide) (by decide) (by decide)]; omega) (n := n) (by rw [q0 _ _ (by decide) (by decide) (by decide)]; omega) (by omega)
  have hoff : ∀ c k, ¬ (c = 403 ∨ c = 404 ∨ c = 710 ∨ c = 726 ∨ (c = 682 ∧ (k = 0 ∨ k = 39))) → (acS (upS (upS (upS (bcS σ 403 (2 + 2 * a1.toNat)) 726 0 (σ (2 + 2 * a1.toNat) 1)) 682 0 0) 682 39 (n : Nat)) 710 0 683 (16 * a1.toNat) 0 n) c k = σ c k := by
    intro c k h
    rw [acS_off (by omega)]
    by_cases h9 : c = 682
    · rw [up_k (by omega), up_k (by omega), q0 _ _ (by omega) (by omega) (by omega)]
    · rw [up_a h9, up_a h9, q0 _ _ (by omega) (by omega) (by omega)]
  have hcl : ∀ c k, c < 682 → (acS (upS (upS (upS (bcS σ 403 (2 + 2 * a1.toNat)) 726 0 (σ (2 + 2 * a1.toNat) 1)) 682 0 0) 682 39 (n : Nat)) 710 0 683 (16 * a1.toNat) 0 n) c k = bcS σ 403 (2 + 2 * a1.toNat) c k := by
    intro c k h
    rw [acS_off (by omega), up_a (by omega), up_a (by omega), up_a (by omega)]
  have e39 : (acS (upS (upS (upS (bcS σ 403 (2 + 2 * a1.toNat)) 726 0 (σ (2 + 2 * a1.toNat) 1)) 682 0 0) 682 39 (n : Nat)) 710 0 683 (16 * a1.toNat) 0 n) 682 39 = (n : Nat) := by rw [acS_off (by decide), up_s]
  have e0 : (acS (upS (upS (upS (bcS σ 403 (2 + 2 * a1.toNat)) 726 0 (σ (2 + 2 * a1.toNat) 1)) 682 0 0) 682 39 (n : Nat)) 710 0 683 (16 * a1.toNat) 0 n) 682 0 = 0 := by rw [acS_off (by decide), up_k (by decide), up_s]
  have e726 : (acS (upS (upS (upS (bcS σ 403 (2 + 2 * a1.toNat)) 726 0 (σ (2 + 2 * a1.toNat) 1)) 682 0 0) 682 39 (n : Nat)) 710 0 683 (16 * a1.toNat) 0 n) 726 0 = (n : Nat) := by
    rw [acS_off (by decide), up_a (by decide), up_a (by decide), up_s, hn1]
  have e710 : ∀ i : Nat, i < n → (acS (upS (upS (upS (bcS σ 403 (2 + 2 * a1.toNat)) 726 0 (σ (2 + 2 * a1.toNat) 1)) 682 0 0) 682 39 (n : Nat)) 710 0 683 (16 * a1.toNat) 0 n) 710 (0 + i) = σ 683 (16 * a1.toNat + i) := by
    intro i hi
    rw [acS_val hi, up_a (by decide), up_a (by decide), q0 _ _ (by decide) (by decide) (by decide)]
  generalize (acS (upS (upS (upS (bcS σ 403 (2 + 2 * a1.toNat)) 726 0 (σ (2 + 2 * a1.toNat) 1)) 682 0 0) 682 39 (n : Nat)) 710 0 683 (16 * a1.toNat) 0 n) = s at hB hoff hcl e39 e0 e726 e710
  refine op_fin hA hB e0 (fun _ => e726) (fun a k ha => q0 _ _ (by omega) (by omega) (by omega)) (fun a k ha => hoff _ _ (by omega)) ?_
  obtain ⟨h1, h2, h3, h4, h5, h6, h7, h8, h9⟩ := H
  have w1 := (h3 a1.toNat (by omega)).1
  have w2 := (h3 a1.toNat (by omega)).2
  obtain ⟨u1, u2, u3, u4, u5, u6, u7, u8, u9, u10, u11⟩ := h6
  refine ⟨?_, Zl_fr (fun k => hoff _ _ (by omega)) h2, RT_fr (fun c k hc => hoff _ _ (by omega)) h3, RB_fr (fun c k hc => hoff _ _ (by omega)) h4, RP_fr (fun c k hc => hoff _ _ (by omega)) h5, ?_, RU_fr (fun c k hc => hoff _ _ (by omega)) h7, RF_fr (fun c k hc => hoff _ _ (by omega)) h8, RD_fr (fun c k hc => hoff _ _ (by omega)) h9⟩
  · refine WF_row (r := 403) (fun a ha hne => ?_) ?_ h1
    · have hl := row_lt ha
      have hnx : ¬ a = 404 := by intro e; subst e; exact absurd ha (by decide +kernel)
      rw [hoff _ _ (by omega)]
    · rw [hcl _ _ (by decide), bc_sz hcp]
      have : cap 403 = 16 := by decide +kernel
      omega
  · have f3 : s 402 3 = σ 402 3 := hoff _ _ (by decide)
    have f4 : s 402 4 = σ 402 4 := hoff _ _ (by decide)
    have f40 : s 682 40 = σ 682 40 := hoff _ _ (by decide)
    have f41 : s 682 41 = σ 682 41 := hoff _ _ (by decide)
    refine ⟨by omega, by omega, by omega, by omega, by omega, by omega, rowEq_fr (hoff _ _ (by decide)) (fun i => hoff _ _ (by omega)) (fun i => hoff _ _ (by omega)) f3 u7, fun k hk => ?_, ⟨?_, fun i hi => ?_⟩, fun i hi => ?_, fun k hk => ?_⟩
    · rw [f3] at hk; omega
    · rw [hcl _ _ (by decide), bc_sz hcp, e39, hn1]
    · rw [e39] at hi
      rw [e710 i (by omega), hcl _ _ (by decide), bc_val hcp (by omega) (by omega)]
      exact w1.2 i (by omega)
    · rw [hcl _ _ (by decide), bc_sz hcp] at hi
      rw [hcl _ _ (by decide), bc_val hcp (by omega) hi]
      exact w2 i hi
    · rw [f3] at hk; omega
end
-- DRAFT 63.bytes.lean
/-! Deltas: what both sides say of the codes of one. -/
noncomputable section
def cdR (f s : Int) : Prop := (0 ≤ f ∧ f < 40 ∧ s = f) ∨ (500 ≤ f ∧ f ≤ 755 ∧ s = f + 500)
/-- a row of codes, and the place of the delta on the other side -/
def Dl (σ : Sg) (a d n : Nat) : Prop := isRow a = true ∧ cap a = 40 ∧ σ a 1 = (n : Nat) ∧ n ≤ 40 ∧ d < 10 ∧ σ 724 d = (n : Nat) ∧ ∀ k : Nat, k < n → cdR (σ (a + 1) k) (σ 725 (40 * d + k))
theorem rel_d {σ : Sg} {c d : Int} (H : Rel c σ) (hd : 0 ≤ d ∧ d < σ 658 1) : Dl σ (660 + 2 * d.toNat) d.toNat (σ (660 + 2 * d.toNat) 1).toNat := by
  have hn := (rel_n H).2.2.2.2
  obtain ⟨g1, g2, g3, g4⟩ := H.2.2.2.2.2.2.2.2
  obtain ⟨e1, e2⟩ := g4 d.toNat (by omega)
  have hr := (el_659 (i := d) (by omega)).2
  have hc := cp_659 (i := d) (by omega)
  have w := H.1 _ hr
  refine ⟨hr, by omega, by omega, by omega, by omega, by omega, fun k hk => ?_⟩
  rcases e2 k (by omega) with ⟨q1, q2, q3⟩ | ⟨q1, q2, q3⟩
  · exact Or.inl ⟨q1, q2, q3⟩
  · exact Or.inr ⟨q1, q2, q3⟩
theorem Dl_w {σ : Sg} {a d n : Nat} (h : Dl σ a d n) : wR σ a := by
  obtain ⟨h1, h2, h3, h4, -⟩ := h
  exact ⟨h1, by omega, by omega⟩
theorem at_in {σ : Sg} {a n k : Nat} (h : σ a 1 = (n : Nat)) (hk : k < n) : atS σ a (k : Int) = σ (a + 1) k := by
  unfold atS
  rw [if_pos ⟨by omega, by omega⟩]
  rfl
theorem d229_ok {σ : Sg} {c d : Int} (H : Rel c σ) (hd : 0 ≤ d ∧ d < σ 658 1) : Dd 229 [vA 0, vI d] σ (rA (660 + 2 * d.toNat) σ) := by
  have hn := (rel_n H).2.2.2.2
  have he := el_659 (i := d) (by omega)
  refine b229 ⟨_, _, b35 (by rw [if_pos hd.2]; exact ⟨_, _, d145_ok (n := 10) (by decide +kernel) (by decide) (by omega) he.1 he.2, rfl⟩), fun h => (by cases h), fun a h => ?_⟩
  cases h
  exact ⟨he.2, rfl⟩
theorem d383_ok {σ : Sg} {d : Int} (hd : 0 ≤ d ∧ d < σ 682 58) : Dd 383 [vA 682, vI d] σ (rI 1 σ) := by
  have e := d246 (x := d) (n := σ 682 58) (σ := σ)
  rw [if_pos hd] at e
  exact b383 ⟨_, _, e, Or.inr rfl, rfl⟩
theorem d41 {x : Int} {σ : Sg} : Dd 41 [vI x] σ (rI (if x < 500 then 1 else 0) σ) := b41 rfl
def tog (a b : Int) : Bool := if a < 500 then decide (b = a + 1) else decide (500 ≤ b)
theorem d46 {a b : Int} {σ : Sg} (h : -1 ≤ a ∧ a ≤ 1000) : Dd 46 [vI a, vI b] σ (rI (if tog a b = true then 1 else 0) σ) := by
  refine b46 ⟨_, _, d41, ?_⟩
  unfold tog
  by_cases h1 : a < 500
  · rw [if_pos h1, if_neg (by decide), if_pos h1]
    refine ⟨by omega, ?_⟩
    by_cases h2 : b = a + 1
    · rw [if_pos h2, if_pos (by simpa using h2)]
    · rw [if_neg h2, if_neg (by simpa using h2)]
  · rw [if_neg h1, if_pos rfl, if_neg h1]
    refine ⟨_, _, d41, ?_⟩
    by_cases h2 : b < 500
    · rw [if_pos h2, if_neg (by decide), if_neg (by simpa using h2)]
    · rw [if_neg h2, if_pos rfl, if_pos (by simpa using Int.not_lt.mp h2)]
/-- a code goes on in the step of the one ahead of it -/
def gT (f : Nat → Int) (k : Nat) : Bool := decide (0 < k) && tog (f (k - 1)) (f k)
theorem l45 {σ : Sg} {a d n s : Nat} (h : Dl σ a d n) {d1 : Option AV} : ∀ (w e0 : Nat), e0 + w = n → s < e0 → (∀ k, s < k → k < e0 → gT (σ (a + 1)) k = true) → ∃ e : Nat, s < e ∧ e ≤ n ∧ (∀ k, s < k → k < e → gT (σ (a + 1)) k = true) ∧ (e = n ∨ gT (σ (a + 1)) e = false) ∧ C45_4 a d1 e0 σ (rI e σ) := by
  have hw := Dl_w h
  obtain ⟨h1, h2, h3, h4, h5, h6, h7⟩ := h
  intro w
  induction w with
  | zero =>
    intro e0 q1 q2 q3
    refine ⟨e0, q2, by omega, q3, Or.inl (by omega), b45_4 h1 ⟨_, _, d146 h1, ?_⟩⟩
    rw [if_neg (by omega)]
  | succ w ih =>
    intro e0 q1 q2 q3
    have v1 := at_in (k := e0 - 1) h3 (by omega)
    have v2 := at_in (k := e0) h3 (by omega)
    have c1 := h7 (e0 - 1) (by omega)
    have hd1 := d147 (i := (e0 : Int) - 1) hw
    rw [show (e0 : Int) - 1 = ((e0 - 1 : Nat) : Int) by omega, v1] at hd1
    have hd2 := d147 (i := (e0 : Int)) hw
    rw [v2] at hd2
    have hb : -1 ≤ σ (a + 1) (e0 - 1) ∧ σ (a + 1) (e0 - 1) ≤ 1000 := by
      rcases c1 with ⟨z1, z2, -⟩ | ⟨z1, z2, -⟩ <;> omega
    have hg : gT (σ (a + 1)) e0 = tog (σ (a + 1) (e0 - 1)) (σ (a + 1) e0) := by
      unfold gT
      rw [decide_eq_true (show 0 < e0 by omega), Bool.true_and]
    by_cases ht : tog (σ (a + 1) (e0 - 1)) (σ (a + 1) e0) = true
    · obtain ⟨e, r1, r2, r3, r4, r5⟩ := ih (e0 + 1) (by omega) (by omega) (fun k hk hk2 => by
        by_cases hk3 : k < e0
        · exact q3 k hk hk3
        · rw [show k = e0 by omega, hg]; exact ht)
      refine ⟨e, r1, r2, r3, r4, b45_4 h1 ⟨_, _, d146 h1, ?_⟩⟩
      rw [if_pos (by omega)]
      refine ⟨by omega, _, _, by rw [show (e0 : Int) - 1 = ((e0 - 1 : Nat) : Int) by omega]; exact hd1, _, _, hd2, _, _, d46 hb, ?_⟩
      rw [if_pos ht, if_neg (by decide)]
      refine ⟨by omega, ?_⟩
      rw [show (e0 : Int) + 1 = ((e0 + 1 : Nat) : Int) by omega]
      exact r5
    · refine ⟨e0, q2, by omega, q3, Or.inr (by rw [hg]; simpa using ht), b45_4 h1 ⟨_, _, d146 h1, ?_⟩⟩
      rw [if_pos (by omega)]
      refine ⟨by omega, _, _, by rw [show (e0 : Int) - 1 = ((e0 - 1 : Nat) : Int) by omega]; exact hd1, _, _, hd2, _, _, d46 hb, ?_⟩
      rw [if_neg ht, if_pos rfl]
/-- where a step ends -/
theorem d45 {σ : Sg} {a d n s : Nat} (h : Dl σ a d n) (hs : s < n) : ∃ e : Nat, s < e ∧ e ≤ n ∧ (∀ k, s < k → k < e → gT (σ (a + 1)) k = true) ∧ (e = n ∨ gT (σ (a + 1)) e = false) ∧ Dd 45 [vA a, vI s] σ (rI e σ) := by
  obtain ⟨e, r1, r2, r3, r4, r5⟩ := l45 h (d1 := some (vI s)) (s := s) (n - (s + 1)) (s + 1) (by omega) (by omega) (fun k h1 h2 => by omega)
  have h4 := h.2.2.2.1
  refine ⟨e, r1, r2, r3, r4, b45 ⟨by omega, ?_⟩⟩
  rw [show (s : Int) + 1 = ((s + 1 : Nat) : Int) by omega]
  exact r5
theorem gT_kind {σ : Sg} {a d n k : Nat} (h : Dl σ a d n) (hk : k < n) (ht : gT (σ (a + 1)) k = true) : (σ (a + 1) (k - 1) < 500 ↔ σ (a + 1) k < 500) := by
  obtain ⟨h1, h2, h3, h4, h5, h6, h7⟩ := h
  have c1 := h7 (k - 1) (by omega)
  have c2 := h7 k hk
  unfold gT tog at ht
  rw [Bool.and_eq_true] at ht
  have ht := ht.2
  rcases c1 with ⟨z1, z2, -⟩ | ⟨z1, z2, -⟩
  · rw [if_pos (by omega)] at ht
    have ht := of_decide_eq_true ht
    omega
  · rw [if_neg (by omega)] at ht
    have ht := of_decide_eq_true ht
    omega
/-- goesOn -/
theorem d386 {σ : Sg} {a d n k : Nat} (h : Dl σ a d n) (hk : k < n) : Dd 386 [vA 682, vI d, vI k] σ (rI (if gT (σ (a + 1)) k = true then 1 else 0) σ) := by
  obtain ⟨h1, h2, h3, h4, h5, h6, h7⟩ := h
  have c2 := h7 k hk
  have e1 : (((40 * (d : Int)) + (k : Int))).toNat = 40 * d + k := by omega
  by_cases h0 : k = 0
  · refine b386 ⟨by omega, by omega, by omega, by omega, by omega, by omega, by omega, fun q => absurd (by omega) q, ?_⟩
    rw [if_pos (show (k : Int) = 0 by omega)]
    unfold gT
    rw [decide_eq_false (show ¬ 0 < k by omega), Bool.false_and, if_neg (by decide)]
  · have c1 := h7 (k - 1) (by omega)
    have e2 : ((((40 * (d : Int)) + (k : Int)) - 1)).toNat = 40 * d + (k - 1) := by omega
    refine b386 ⟨by omega, by omega, by omega, by omega, by omega, by omega, by omega, fun _ _ => ?_, ?_⟩
    · rw [e2]
      rcases c1 with ⟨z1, z2, z3⟩ | ⟨z1, z2, z3⟩ <;> omega
    · rw [if_neg (show ¬ (k : Int) = 0 by omega), e1, e2]
      unfold gT tog
      rw [decide_eq_true (show 0 < k by omega), Bool.true_and]
      rcases c1 with ⟨z1, z2, z3⟩ | ⟨z1, z2, z3⟩
      · rw [if_pos (show σ (a + 1) (k - 1) < 500 by omega)]
        rcases c2 with ⟨y1, y2, y3⟩ | ⟨y1, y2, y3⟩
        · rw [if_neg (by omega), y3, z3]
          by_cases q : σ (a + 1) k = σ (a + 1) (k - 1) + 1
          · rw [if_pos q, if_pos (by simpa using q)]
          · rw [if_neg q, if_neg (by simpa using q)]
        · rw [if_pos (by omega), if_neg (by omega), if_neg (by
            intro q
            have q := of_decide_eq_true q
            omega)]
      · rw [if_neg (show ¬ σ (a + 1) (k - 1) < 500 by omega)]
        rcases c2 with ⟨y1, y2, y3⟩ | ⟨y1, y2, y3⟩
        · rw [if_neg (by omega), if_neg (by omega), if_neg (by
            intro q
            have q := of_decide_eq_true q
            omega)]
        · rw [if_pos (by omega), if_pos (by omega), if_pos (by simpa using y1)]
def mW (f : Nat → Int) (k : Nat) : Int := (if 500 ≤ f k then 1 else 0) + (if gT f k = true then 0 else if 500 ≤ f k then 1 else 3)
def sW (f : Nat → Int) : Nat → Nat → Int
  | 0, _ => 0
  | d + 1, k => mW f k + sW f d (k + 1)
theorem sW_run {σ : Sg} {a d n s e : Nat} (h : Dl σ a d n) (hs : s < e) (he : e ≤ n) (hT : ∀ k, s < k → k < e → gT (σ (a + 1)) k = true) (w : Nat) : ∀ j, j + 1 + s ≤ e → sW (σ (a + 1)) (w + j) (e - j) = (if σ (a + 1) s < 500 then 0 else (j : Int)) + sW (σ (a + 1)) w e ∧ (σ (a + 1) s < 500 ↔ σ (a + 1) (e - j - 1) < 500) ∨ ¬ (∀ k, s < k → k < e → (σ (a + 1) s < 500 ↔ σ (a + 1) k < 500)) := by
  intro j hj
  by_cases hall : ∀ k, s < k → k < e → (σ (a + 1) s < 500 ↔ σ (a + 1) k < 500)
  · left
    refine ⟨?_, ?_⟩
    · clear hs
      induction j with
      | zero =>
        split <;> simp
      | succ j ih =>
        have ih := ih (by omega)
        rw [show w + (j + 1) = (w + j) + 1 by omega]
        unfold sW
        rw [show e - (j + 1) + 1 = e - j by omega, ih]
        have hk := hall (e - (j + 1)) (by omega) (by omega)
        unfold mW
        rw [if_pos (hT (e - (j + 1)) (by omega) (by omega))]
        by_cases q : σ (a + 1) s < 500
        · rw [if_pos q, if_pos q, if_neg (by omega)]
          omega
        · rw [if_neg q, if_neg q, if_pos (by omega)]
          omega
    · by_cases hz : e - j - 1 = s
      · rw [hz]
      · exact hall _ (by omega) (by omega)
  · exact Or.inr hall
theorem run_kind {σ : Sg} {a d n s e : Nat} (h : Dl σ a d n) (he : e ≤ n) (hT : ∀ k, s < k → k < e → gT (σ (a + 1)) k = true) : ∀ k, s < k → k < e → (σ (a + 1) s < 500 ↔ σ (a + 1) k < 500) := by
  intro k
  induction k with
  | zero => intro h1; omega
  | succ k ih =>
    intro h1 h2
    have hk := gT_kind h (k := k + 1) (by omega) (hT _ h1 h2)
    rw [Nat.add_sub_cancel] at hk
    by_cases hz : s = k
    · rw [hz]; exact hk
    · exact (ih (by omega) (by omega)).trans hk
theorem sW_step {σ : Sg} {a d n s e : Nat} (h : Dl σ a d n) (hs : s < e) (he : e ≤ n) (h0 : gT (σ (a + 1)) s = false) (hT : ∀ k, s < k → k < e → gT (σ (a + 1)) k = true) : sW (σ (a + 1)) (n - s) s = (if σ (a + 1) s < 500 then 3 else 1 + ((e : Int) - s)) + sW (σ (a + 1)) (n - e) e := by
  rcases sW_run h hs he hT (n - e) (e - s - 1) (by omega) with ⟨q, -⟩ | q
  · rw [show n - s = (n - e + (e - s - 1)) + 1 by omega]
    unfold sW
    rw [show s + 1 = e - (e - s - 1) by omega, q]
    unfold mW
    rw [h0, if_neg (show ¬ false = true by decide)]
    by_cases z : σ (a + 1) s < 500
    · rw [if_pos z, if_pos z, if_neg (by omega), if_neg (by omega)]
      omega
    · rw [if_neg z, if_neg z, if_pos (by omega), if_pos (by omega)]
      omega
  · exact absurd (run_kind h he hT) q
theorem l47 {σ : Sg} {a d n : Nat} (h : Dl σ a d n) {d0 : Option AV} : ∀ (w s : Nat) (acc : Int) (d4 : Option AV), n - s ≤ w → s ≤ n → (s = n ∨ gT (σ (a + 1)) s = false) → 0 ≤ acc ∧ acc ≤ 3 * s → C47_4 d0 a acc s d4 σ (rI (acc + sW (σ (a + 1)) (n - s) s) σ) := by
  have h3 := h.2.2.1
  have h4 := h.2.2.2.1
  intro w
  induction w with
  | zero =>
    intro s acc d4 q1 q2 q3 q4
    refine b47_4 h.1 ⟨_, _, d146 h.1, ?_⟩
    rw [if_neg (by omega), show n - s = 0 by omega]
    unfold sW
    rw [Int.add_zero]
  | succ w ih =>
    intro s acc d4 q1 q2 q3 q4
    by_cases hs : s < n
    · rcases q3 with q3 | q3
      · omega
      obtain ⟨e, r1, r2, r3, r4, r5⟩ := d45 h hs
      have hd := d147 (i := (s : Int)) (Dl_w h)
      rw [at_in h3 hs] at hd
      refine b47_4 h.1 ⟨_, _, d146 h.1, ?_⟩
      rw [if_pos (by omega)]
      refine ⟨_, _, r5, _, _, hd, _, _, d41, ?_⟩
      rw [sW_step h r1 r2 q3 r3, ← Int.add_assoc]
      by_cases z : σ (a + 1) s < 500
      · rw [if_pos z, if_pos z, if_neg (show ¬ (1 : Int) = 0 by decide)]
        exact ⟨fun q => absurd q (by decide), fun q => absurd q (by decide), b47_41 ⟨by omega, ih e _ _ (by omega) r2 r4 (by omega)⟩⟩
      · rw [if_neg z, if_neg z, if_pos rfl]
        refine ⟨fun q => by omega, fun q => by omega, b47_41 ⟨by omega, ?_⟩⟩
        have g := ih e (acc + (1 + ((e : Int) - s))) (some (vI e)) (by omega) r2 r4 (by omega)
        rw [show (1 : Int) + (e : Int) - (s : Int) = 1 + ((e : Int) - s) by omega]
        exact g
    · refine b47_4 h.1 ⟨_, _, d146 h.1, ?_⟩
      rw [if_neg (by omega), show n - s = 0 by omega]
      unfold sW
      rw [Int.add_zero]
theorem l387 {σ : Sg} {a d n : Nat} (h : Dl σ a d n) : ∀ (w k : Nat) (acc : Int) (d4 : Option AV), k + w = n → 0 ≤ acc ∧ acc ≤ 3 * k → C387_26 d acc k d4 σ (rI (acc + sW (σ (a + 1)) w k) σ) := by
  have h4 := h.2.2.2.1
  have h5 := h.2.2.2.2.1
  have h6 := h.2.2.2.2.2.1
  intro w
  induction w with
  | zero =>
    intro k acc d4 q1 q2
    refine b387_26 ⟨by omega, ?_⟩
    rw [show ((d : Int)).toNat = d by omega, if_neg (by omega)]
    unfold sW
    rw [Int.add_zero]
  | succ w ih =>
    intro k acc d4 q1 q2
    refine b387_26 ⟨by omega, ?_⟩
    rw [show ((d : Int)).toNat = d by omega, if_pos (by omega), show ((40 * (d : Int)) + (k : Int)).toNat = 40 * d + k by omega]
    refine ⟨by omega, by omega, by omega, b387_58 (b387_71 ⟨_, _, d386 h (by omega), b387_94 ?_⟩)⟩
    have e := h.2.2.2.2.2.2 k (by omega)
    have hk := ih (k + 1) (acc + mW (σ (a + 1)) k)
    unfold sW
    rw [← Int.add_assoc]
    have key : (if (if 1000 ≤ σ 725 (40 * d + k) then (1 : Int) else 0) = 0 then (0 : Int) else 1) + (if (if gT (σ (a + 1)) k = true then (1 : Int) else 0) = 0 then (if (if 1000 ≤ σ 725 (40 * d + k) then (1 : Int) else 0) = 0 then 3 else 1) else 0) = mW (σ (a + 1)) k := by
      unfold mW
      have e9 : (1000 ≤ σ 725 (40 * d + k)) ↔ (500 ≤ σ (a + 1) k) := by
        rcases e with ⟨z1, z2, z3⟩ | ⟨z1, z2, z3⟩ <;> omega
      by_cases z : 500 ≤ σ (a + 1) k
      · rw [if_pos (e9.mpr z), if_neg (by decide), if_pos z, if_neg (by decide), if_pos z]
        by_cases y : gT (σ (a + 1)) k = true
        · rw [if_pos y, if_neg (by decide), if_pos y]
        · rw [if_neg y, if_pos rfl, if_neg y]
      · rw [if_neg (fun q => z (e9.mp q)), if_pos rfl, if_neg z, if_pos rfl, if_neg z]
        by_cases y : gT (σ (a + 1)) k = true
        · rw [if_pos y, if_neg (by decide), if_pos y]
        · rw [if_neg y, if_pos rfl, if_neg y]
    have hb : 0 ≤ mW (σ (a + 1)) k ∧ mW (σ (a + 1)) k ≤ 3 := by
      unfold mW
      split <;> split <;> (try split) <;> omega
    rw [key]
    refine ⟨by omega, by omega, by omega, ?_⟩
    rw [show (k : Int) + 1 = ((k + 1 : Nat) : Int) by omega]
    exact hk _ (by omega) (by omega)
theorem o52 {σ : Sg} {c a1 : Int} (H : Rel c σ) : OpR 440 387 [vA 0, vI a1, vA 726] [vA 682, vI a1] σ (c + 1) := by
  by_cases g1 : a1 < 0
  · exact x52_0 H g1
  by_cases g2 : σ 658 1 ≤ a1
  · exact x52_1 H g2
  have k1 : 0 ≤ a1 ∧ a1 < σ 658 1 := by omega
  have hn := (rel_n H).2.2.2.2
  have hD := rel_d H k1
  generalize hnn : (σ (660 + 2 * a1.toNat) 1).toNat = n at hD
  have hF : Dd 224 [vA 0, vI a1] σ (rI (sW (σ (660 + 2 * a1.toNat + 1)) n 0) σ) := by
    refine b224 (Or.inl ⟨_, _, d229_ok H k1, hD.1, _, _, b47 ?_, rfl⟩)
    have e := l47 hD (d0 := some (vA 658)) n 0 0 none (by omega) (by omega) (by
      right
      unfold gT
      rfl) (by omega)
    rw [Int.zero_add, Nat.sub_zero] at e
    exact e
  have hA := b440 (Or.inl ⟨_, _, hF, rfl⟩)
  generalize hv : sW (σ (660 + 2 * a1.toNat + 1)) n 0 = v at hA
  have H2 : Rel c (upS (upS σ 726 0 v) 682 0 0) := Rel_0 (Int.le_refl c) (fun c k hc => by unfold upS; rw [if_neg (by omega), if_neg (by omega)]) H
  have f : ∀ a k, ¬ a = 726 → ¬ a = 682 → upS (upS σ 726 0 v) 682 0 0 a k = σ a k := fun a k h1 h2 => by rw [up_a h2, up_a h1]
  have hD2 : Dl (upS (upS σ 726 0 v) 682 0 0) (660 + 2 * a1.toNat) a1.toNat n := by
    obtain ⟨h1, h2, h3, h4, h5, h6, h7⟩ := hD
    refine ⟨h1, h2, by rw [f _ _ (by omega) (by omega)]; exact h3, h4, h5, by rw [f _ _ (by omega) (by omega)]; exact h6, fun k hk => ?_⟩
    rw [f _ _ (by omega) (by omega), f _ _ (by omega) (by omega)]
    exact h7 k hk
  refine op_q2 H hA (v2 := v) (b387 ⟨_, _, d383_ok (by rw [up_a (by decide)]; omega), ?_⟩) rfl
  rw [if_neg (show ¬ (1 : Int) = 0 by decide)]
  refine b387_14 ⟨_, _, d245, ?_⟩
  rw [if_pos rfl, if_neg (show ¬ (1 : Int) = 0 by decide)]
  have e := l387 hD2 n 0 0 none (by omega) (by omega)
  rw [Int.zero_add] at e
  have ef : (upS (upS σ 726 0 v) 682 0 0) (660 + 2 * a1.toNat + 1) = σ (660 + 2 * a1.toNat + 1) := funext (fun k => f _ _ (by omega) (by omega))
  rw [ef, hv, show ((a1.toNat : Nat) : Int) = a1 by omega] at e
  exact e
end
-- DRAFT 64.bytes2.lean
/-! step: on both sides. -/
noncomputable section
/-- the model, inside one step that was asked for or not -/
theorem l388_run {σ : Sg} {a d n : Nat} (h : Dl σ a d n) {o : Rs} {x2 x3 x5 : Int} {e : Nat} (he : e ≤ n) : ∀ (w k : Nat) (x4 : Int), k + w = e → 0 < k → (∀ q, k ≤ q → q < e → gT (σ (a + 1)) q = true) → -1 ≤ x3 ∧ x3 ≤ 100 → 0 ≤ x4 ∧ x4 ≤ k → C388_37 d x2 x3 (x4 + (if x3 = x2 then (w : Int) else 0)) x5 e σ o → C388_37 d x2 x3 x4 x5 k σ o := by
  have h4 := h.2.2.2.1
  have h5 := h.2.2.2.2.1
  have h6 := h.2.2.2.2.2.1
  intro w
  induction w with
  | zero =>
    intro k x4 q1 q2 q3 q4 q5 H
    rw [show k = e by omega]
    have : x4 + (if x3 = x2 then ((0 : Nat) : Int) else 0) = x4 := by split <;> omega
    rw [this] at H
    exact H
  | succ w ih =>
    intro k x4 q1 q2 q3 q4 q5 H
    have hd := d386 h (k := k) (by omega)
    rw [if_pos (q3 k (Nat.le_refl _) (by omega))] at hd
    refine b388_37 ⟨by omega, ?_⟩
    rw [show ((d : Int)).toNat = d by omega, if_pos (by omega)]
    refine ⟨_, _, hd, ?_⟩
    rw [if_neg (show ¬ (1 : Int) = 0 by decide)]
    refine b388_64 ⟨by omega, ?_⟩
    rw [show x3 + 0 = x3 by omega]
    have fin : C388_96 d x2 x3 x4 x5 k σ o := by
      refine b388_96 (b388_98 (b388_112 ⟨?_, by omega, ?_⟩))
      · split <;> omega
      · rw [show (k : Int) + 1 = ((k + 1 : Nat) : Int) by omega]
        refine ih (k + 1) _ (by omega) (by omega) (fun q z1 z2 => q3 q (by omega) z2) q4 (by split <;> omega) ?_
        have : x4 + (if x3 = x2 then (1 : Int) else 0) + (if x3 = x2 then ((w : Nat) : Int) else 0) = x4 + (if x3 = x2 then ((w + 1 : Nat) : Int) else 0) := by
          split <;> omega
        rw [this]
        exact H
    by_cases z : x3 = x2
    · rw [if_pos z]
      refine ⟨_, _, hd, ?_⟩
      rw [if_neg (show ¬ (1 : Int) = 0 by decide)]
      exact fin
    · rw [if_neg z]; exact fin
/-- the model, at the first byte of a step -/
theorem l388_first {σ : Sg} {a d n : Nat} (h : Dl σ a d n) {o : Rs} {x2 x3 x4 x5 : Int} {k : Nat} (hk : k < n) (h0 : gT (σ (a + 1)) k = false) (q4 : -1 ≤ x3 ∧ x3 ≤ 100) (q5 : 0 ≤ x4 ∧ x4 ≤ k) (H : C388_37 d x2 (x3 + 1) (x4 + (if x3 + 1 = x2 then 1 else 0)) (if x3 + 1 = x2 then σ 725 (40 * d + k) else x5) ((k + 1 : Nat) : Int) σ o) : C388_37 d x2 x3 x4 x5 k σ o := by
  have h4 := h.2.2.2.1
  have h5 := h.2.2.2.2.1
  have h6 := h.2.2.2.2.2.1
  have hd := d386 h (k := k) hk
  rw [h0, if_neg (show ¬ false = true by decide)] at hd
  refine b388_37 ⟨by omega, ?_⟩
  rw [show ((d : Int)).toNat = d by omega, if_pos (by omega)]
  refine ⟨_, _, hd, ?_⟩
  rw [if_pos rfl]
  refine b388_64 ⟨by omega, ?_⟩
  by_cases z : x3 + 1 = x2
  · rw [if_pos z] at H ⊢
    rw [if_pos z] at H
    refine ⟨_, _, hd, ?_⟩
    rw [if_pos rfl, show ((40 * (d : Int)) + (k : Int)).toNat = 40 * d + k by omega]
    refine ⟨by omega, by omega, by omega, b388_98 (b388_112 ⟨?_, by omega, ?_⟩)⟩
    · rw [if_pos z]; omega
    · rw [if_pos z, show (k : Int) + 1 = ((k + 1 : Nat) : Int) by omega]
      exact H
  · rw [if_neg z] at H ⊢
    rw [if_neg z] at H
    refine b388_96 (b388_98 (b388_112 ⟨?_, by omega, ?_⟩))
    · rw [if_neg z]; omega
    · rw [if_neg z, show (k : Int) + 1 = ((k + 1 : Nat) : Int) by omega]
      exact H
/-- behind the step that was asked for nothing is changed -/
theorem l388_past {σ : Sg} {a d n : Nat} (h : Dl σ a d n) {o : Rs} {x2 x4 x5 : Int} : ∀ (w k : Nat) (x3 : Int), k + w = n → x2 < x3 → -1 ≤ x3 ∧ x3 ≤ k → 0 ≤ x4 ∧ x4 ≤ k → (∀ y : Int, C388_37 d x2 y x4 x5 n σ o) → C388_37 d x2 x3 x4 x5 k σ o := by
  have h4 := h.2.2.2.1
  have h5 := h.2.2.2.2.1
  have h6 := h.2.2.2.2.2.1
  intro w
  induction w with
  | zero =>
    intro k x3 q1 q2 q4 q5 H
    rw [show k = n by omega]
    exact H _
  | succ w ih =>
    intro k x3 q1 q2 q4 q5 H
    have hd := d386 h (k := k) (by omega)
    refine b388_37 ⟨by omega, ?_⟩
    rw [show ((d : Int)).toNat = d by omega, if_pos (by omega)]
    refine ⟨_, _, hd, ?_⟩
    have fin : ∀ y : Int, x2 < y → -1 ≤ y ∧ y ≤ k + 1 → C388_96 d x2 y x4 x5 k σ o := by
      intro y hy hy2
      refine b388_96 (b388_98 (b388_112 ⟨?_, by omega, ?_⟩))
      · rw [if_neg (by omega)]; omega
      · rw [if_neg (by omega), show (k : Int) + 1 = ((k + 1 : Nat) : Int) by omega, Int.add_zero]
        exact ih (k + 1) y (by omega) hy (by omega) (by omega) H
    by_cases z : gT (σ (a + 1)) k = true
    · rw [if_pos z, if_neg (show ¬ (1 : Int) = 0 by decide)]
      refine b388_64 ⟨by omega, ?_⟩
      rw [if_neg (by omega)]
      exact fin _ (by omega) (by omega)
    · rw [if_neg z, if_pos rfl]
      refine b388_64 ⟨by omega, ?_⟩
      rw [if_neg (by omega)]
      exact fin _ (by omega) (by omega)
theorem l388_end {σ : Sg} {a d n : Nat} (h : Dl σ a d n) {x2 x3 x4 x5 : Int} (hx : 0 ≤ x4 ∧ x4 ≤ 40) (h5' : 0 ≤ x5 ∧ x5 ≤ 2000) : C388_37 d x2 x3 x4 x5 n σ (rI (if x4 = 0 then -1 else 1000 * x4 + (if 1000 ≤ x5 then x5 - 500 else x5)) σ) := by
  have h4 := h.2.2.2.1
  have h5 := h.2.2.2.2.1
  have h6 := h.2.2.2.2.2.1
  refine b388_37 ⟨by omega, ?_⟩
  rw [show ((d : Int)).toNat = d by omega, if_neg (by omega)]
  by_cases z : x4 = 0
  · rw [if_pos z, if_pos z]
  · rw [if_neg z, if_neg z]
    refine ⟨by omega, fun _ => by omega, b388_155 ⟨?_, rfl⟩⟩
    split <;> omega
/-- what the step of a number answers: both sides at once -/
theorem l53 {σ : Sg} {a d n : Nat} (h : Dl σ a d n) {d0 d2 : Option AV} {x2 : Int} (hx2 : 0 ≤ x2 ∧ x2 ≤ 2147483647) : ∀ (w s : Nat) (left : Int) (d5 : Option AV), n - s ≤ w → s ≤ n → (s = n ∨ gT (σ (a + 1)) s = false) → 0 ≤ left ∧ left ≤ x2 → x2 - left ≤ s → ∃ v, C48_5 d0 a d2 s left d5 σ (rI v σ) ∧ ∀ σ', Dl σ' a d n → σ' (a + 1) = σ (a + 1) → C388_37 d x2 (x2 - left - 1) 0 0 s σ' (rI v σ') := by
  have h3 := h.2.2.1
  have h4 := h.2.2.2.1
  have stop : ∀ (left : Int) (d5 : Option AV), ∃ v, C48_5 d0 a d2 n left d5 σ (rI v σ) ∧ ∀ σ', Dl σ' a d n → σ' (a + 1) = σ (a + 1) → C388_37 d x2 (x2 - left - 1) 0 0 n σ' (rI v σ') := by
    intro left d5
    refine ⟨-1, b48_5 h.1 ⟨_, _, d146 h.1, ?_⟩, fun σ' h' hf => ?_⟩
    · rw [if_neg (by omega)]
    · have e := l388_end h' (x2 := x2) (x3 := x2 - left - 1) (x4 := 0) (x5 := 0) (by omega) (by omega)
      rw [if_pos rfl] at e
      exact e
  intro w
  induction w with
  | zero =>
    intro s left d5 q1 q2 q3 q4 q5
    rw [show s = n by omega]
    exact stop left d5
  | succ w ih =>
    intro s left d5 q1 q2 q3 q4 q5
    by_cases hs : s < n
    · rcases q3 with q3 | q3
      · omega
      obtain ⟨e, r1, r2, r3, r4, r5⟩ := d45 h hs
      have hd := d147 (i := (s : Int)) (Dl_w h)
      rw [at_in h3 hs] at hd
      have cs0 := h.2.2.2.2.2.2 s hs
      by_cases z : left = 0
      · have hv : -1 ≤ σ (a + 1) s ∧ σ (a + 1) s ≤ 1000 := by
          rcases cs0 with ⟨z1, z2, z3⟩ | ⟨z1, z2, z3⟩ <;> omega
        refine ⟨1000 * ((e : Int) - s) + σ (a + 1) s, b48_5 h.1 ⟨_, _, d146 h.1, ?_⟩, fun σ' h' hf => ?_⟩
        · rw [if_pos (by omega)]
          refine ⟨_, _, r5, ?_⟩
          rw [if_pos z]
          exact ⟨by omega, by omega, _, _, hd, by omega, rfl⟩
        · have r3' : ∀ k, s + 1 ≤ k → k < e → gT (σ' (a + 1)) k = true := fun k z1 z2 => by rw [hf]; exact r3 k (by omega) z2
          have q3' : gT (σ' (a + 1)) s = false := by rw [hf]; exact q3
          have cs := h'.2.2.2.2.2.2 s hs
          rw [hf] at cs
          refine l388_first h' hs q3' (by omega) (by omega) ?_
          rw [if_pos (by omega), if_pos (by omega)]
          have key := l388_run h' (x2 := x2) (x3 := x2 - left - 1 + 1) (x5 := σ' 725 (40 * d + s)) (o := rI (1000 * ((e : Int) - s) + σ (a + 1) s) σ') r2 (e - (s + 1)) (s + 1) (0 + 1) (by omega) (by omega) r3' (by omega) (by omega)
          apply key
          rw [if_pos (by omega), show (0 : Int) + 1 + ((e - (s + 1) : Nat) : Int) = (e : Int) - s by omega]
          have fin : ∀ y : Int, C388_37 d x2 y ((e : Int) - s) (σ' 725 (40 * d + s)) n σ' (rI (1000 * ((e : Int) - s) + σ (a + 1) s) σ') := by
            intro y
            have e9 := l388_end h' (x2 := x2) (x3 := y) (x4 := (e : Int) - s) (x5 := σ' 725 (40 * d + s)) (by omega) (by
              rcases cs with ⟨z1, z2, z3⟩ | ⟨z1, z2, z3⟩ <;> omega)
            rw [if_neg (by omega)] at e9
            have : (if 1000 ≤ σ' 725 (40 * d + s) then σ' 725 (40 * d + s) - 500 else σ' 725 (40 * d + s)) = σ (a + 1) s := by
              rcases cs with ⟨z1, z2, z3⟩ | ⟨z1, z2, z3⟩
              · rw [if_neg (by omega)]; omega
              · rw [if_pos (by omega)]; omega
            rw [this] at e9
            exact e9
          rcases r4 with r4 | r4
          · rw [r4] at fin ⊢
            exact fin _
          · by_cases hen : e < n
            · refine l388_first h' hen (by rw [hf]; exact r4) (by omega) (by omega) ?_
              rw [if_neg (by omega), if_neg (by omega), Int.add_zero]
              exact l388_past h' (n - (e + 1)) (e + 1) _ (by omega) (by omega) (by omega) (by omega) fin
            · have hen2 : e = n := by omega
              rw [hen2] at fin ⊢
              exact fin _
      · obtain ⟨v, v1, v2⟩ := ih e (left - 1) (some (vI e)) (by omega) r2 r4 (by omega) (by omega)
        refine ⟨v, b48_5 h.1 ⟨_, _, d146 h.1, ?_⟩, fun σ' h' hf => ?_⟩
        · rw [if_pos (by omega)]
          refine ⟨_, _, r5, ?_⟩
          rw [if_neg z]
          refine ⟨by omega, ?_⟩
          rw [show left + (-1) = left - 1 by omega]
          exact v1
        · have r3' : ∀ k, s + 1 ≤ k → k < e → gT (σ' (a + 1)) k = true := fun k z1 z2 => by rw [hf]; exact r3 k (by omega) z2
          have q3' : gT (σ' (a + 1)) s = false := by rw [hf]; exact q3
          have v2 := v2 σ' h' hf
          refine l388_first h' hs q3' (by omega) (by omega) ?_
          rw [if_neg (by omega), if_neg (by omega)]
          refine l388_run h' r2 (e - (s + 1)) (s + 1) (0 + 0) (by omega) (by omega) r3' (by omega) (by omega) ?_
          rw [if_neg (by omega)]
          rw [show x2 - (left - 1) - 1 = x2 - left - 1 + 1 by omega] at v2
          exact v2
    · rw [show s = n by omega]
      exact stop left d5
theorem o53 {σ : Sg} {c a1 a2 : Int} (H : Rel c σ) (hi : a2 ≤ 2147483647) : OpR 441 388 [vA 0, vI a1, vI a2, vA 726] [vA 682, vI a1, vI a2] σ (c + 1) := by
  by_cases g1 : a1 < 0
  · exact x53_0 H g1
  by_cases g2 : σ 658 1 ≤ a1
  · exact x53_1 H g2
  have k1 : 0 ≤ a1 ∧ a1 < σ 658 1 := by omega
  by_cases g3 : a2 < 0
  · exact x53_2 H k1 g3
  have hn := (rel_n H).2.2.2.2
  have hD := rel_d H k1
  generalize hnn : (σ (660 + 2 * a1.toNat) 1).toNat = n at hD
  have f : ∀ v a k, ¬ a = 726 → ¬ a = 682 → upS (upS σ 726 0 v) 682 0 0 a k = σ a k := fun v a k h1 h2 => by rw [up_a h2, up_a h1]
  have hD2 : ∀ v, Dl (upS (upS σ 726 0 v) 682 0 0) (660 + 2 * a1.toNat) a1.toNat n := by
    intro v
    obtain ⟨h1, h2, h3, h4, h5, h6, h7⟩ := hD
    refine ⟨h1, h2, by rw [f _ _ _ (by omega) (by omega)]; exact h3, h4, h5, by rw [f _ _ _ (by omega) (by omega)]; exact h6, fun k hk => ?_⟩
    rw [f _ _ _ (by omega) (by omega), f _ _ _ (by omega) (by omega)]
    exact h7 k hk
  have ef : ∀ v, (upS (upS σ 726 0 v) 682 0 0) (660 + 2 * a1.toNat + 1) = σ (660 + 2 * a1.toNat + 1) := fun v => funext (fun k => f _ _ _ (by omega) (by omega))
  have hg : (0 : Nat) = n ∨ gT (σ (660 + 2 * a1.toNat + 1)) 0 = false := by
    right
    unfold gT
    rfl
  obtain ⟨v, v1, v2⟩ := l53 hD (d0 := some (vA 658)) (d2 := some (vI a2)) (x2 := a2) ⟨by omega, hi⟩ n 0 a2 none (by omega) (by omega) hg (by omega) (by omega)
  have hF : Dd 225 [vA 0, vI a1, vI a2] σ (rI v σ) := b225 (Or.inl ⟨_, _, d229_ok H k1, hD.1, Or.inl ⟨_, b233 (by rw [if_neg (by omega)]), _, _, b48 v1, rfl⟩⟩)
  have hA := b441 (Or.inl ⟨_, _, hF, rfl⟩)
  refine op_q2 H hA (v2 := v) (b388 ⟨_, _, d383_ok (by rw [up_a (by decide)]; omega), ?_⟩) rfl
  rw [if_neg (show ¬ (1 : Int) = 0 by decide), if_pos (show 0 ≤ a2 by omega)]
  refine b388_18 ⟨_, _, d245, ?_⟩
  rw [if_pos rfl, if_neg (show ¬ (1 : Int) = 0 by decide)]
  have e := v2 _ (hD2 v) (ef v)
  rw [show a2 - a2 - 1 = -1 by omega, show ((a1.toNat : Nat) : Int) = a1 by omega] at e
  exact e
end
-- DRAFT 65.bytes3.lean
/-! chain, putDelta: on both sides. -/
noncomputable section
def rS (f : Nat → Int) : Nat → Nat → Int → Int
  | 0, _, acc => acc
  | w + 1, k, acc => rS f w (k + 1) (if f k < 500 then (if acc < f k + 1 then f k + 1 else acc) else acc)
theorem rS_ge {f : Nat → Int} : ∀ (w k : Nat) (acc : Int), acc ≤ rS f w k acc ∧ ∀ i, k ≤ i → i < k + w → f i < 500 → f i < rS f w k acc := by
  intro w
  induction w with
  | zero => intro k acc; exact ⟨Int.le_refl _, fun i h1 h2 => by omega⟩
  | succ w ih =>
    intro k acc
    unfold rS
    obtain ⟨g1, g2⟩ := ih (k + 1) (if f k < 500 then (if acc < f k + 1 then f k + 1 else acc) else acc)
    refine ⟨?_, fun i h1 h2 h3 => ?_⟩
    · refine Int.le_trans ?_ g1
      split
      · split <;> omega
      · exact Int.le_refl _
    · by_cases z : i = k
      · subst z
        refine Int.lt_of_lt_of_le ?_ g1
        rw [if_pos h3]
        split <;> omega
      · exact g2 i (by omega) (by omega) h3
theorem l42 {σ : Sg} {a d n : Nat} (h : Dl σ a d n) {d0 : Option AV} : ∀ (w k : Nat) (acc : Int), k + w = n → 0 ≤ acc ∧ acc ≤ 40 → C42_4 d0 a acc k σ (rI (rS (σ (a + 1)) w k acc) σ) := by
  have h3 := h.2.2.1
  intro w
  induction w with
  | zero =>
    intro k acc q1 q2
    refine b42_4 h.1 ⟨_, _, d146 h.1, ?_⟩
    rw [if_neg (by omega)]
    rfl
  | succ w ih =>
    intro k acc q1 q2
    have h4 := h.2.2.2.1
    have hd := d147 (i := (k : Int)) (Dl_w h)
    rw [at_in h3 (by omega)] at hd
    have cs := h.2.2.2.2.2.2 k (by omega)
    refine b42_4 h.1 ⟨_, _, d146 h.1, ?_⟩
    rw [if_pos (by omega)]
    refine ⟨_, _, hd, _, _, d41, ?_⟩
    unfold rS
    by_cases z : σ (a + 1) k < 500
    · rw [if_pos z, if_neg (show ¬ (1 : Int) = 0 by decide), if_pos z]
      have : 0 ≤ σ (a + 1) k ∧ σ (a + 1) k < 40 := by
        rcases cs with ⟨z1, z2, z3⟩ | ⟨z1, z2, z3⟩ <;> omega
      refine ⟨_, _, hd, by omega, b42_35 ⟨by omega, ?_⟩⟩
      rw [show (k : Int) + 1 = ((k + 1 : Nat) : Int) by omega]
      exact ih (k + 1) _ (by omega) (by split <;> omega)
    · rw [if_neg z, if_pos rfl, if_neg z]
      refine b42_35 ⟨by omega, ?_⟩
      rw [show (k : Int) + 1 = ((k + 1 : Nat) : Int) by omega]
      exact ih (k + 1) _ (by omega) q2
theorem d42 {σ : Sg} {a d n : Nat} (h : Dl σ a d n) : Dd 42 [vA 658, vA a] σ (rI (rS (σ (a + 1)) n 0 0) σ) := b42 (l42 h n 0 0 (by omega) (by omega))
theorem l384 {σ : Sg} {a d n : Nat} (h : Dl σ a d n) : ∀ (w k : Nat) (acc : Int) (d4 : Option AV), k + w = n → 0 ≤ acc ∧ acc ≤ 40 → C384_4 d acc k d4 σ (rI (rS (σ (a + 1)) w k acc) σ) := by
  have h5 := h.2.2.2.2.1
  have h6 := h.2.2.2.2.2.1
  intro w
  induction w with
  | zero =>
    intro k acc d4 q1 q2
    refine b384_4 ⟨by omega, ?_⟩
    rw [show ((d : Int)).toNat = d by omega, if_neg (by omega)]
    rfl
  | succ w ih =>
    intro k acc d4 q1 q2
    have h4 := h.2.2.2.1
    have cs := h.2.2.2.2.2.2 k (by omega)
    refine b384_4 ⟨by omega, ?_⟩
    rw [show ((d : Int)).toNat = d by omega, if_pos (by omega), show ((40 * (d : Int)) + (k : Int)).toNat = 40 * d + k by omega]
    refine ⟨by omega, by omega, by omega, ?_⟩
    unfold rS
    have nx : ∀ (y : Int) (d2 d4 : Option AV), 0 ≤ y ∧ y ≤ 40 → C384_49 d d2 k d4 y σ (rI (rS (σ (a + 1)) w (k + 1) y) σ) := by
      intro y d2 d4 hy
      refine b384_49 ⟨by omega, ?_⟩
      rw [show (k : Int) + 1 = ((k + 1 : Nat) : Int) by omega]
      exact ih (k + 1) y d4 (by omega) hy
    rcases cs with ⟨z1, z2, z3⟩ | ⟨z1, z2, z3⟩
    · rw [if_pos (show σ 725 (40 * d + k) < 1000 by omega), if_pos (show σ (a + 1) k < 500 by omega), z3]
      by_cases y : acc ≤ σ (a + 1) k
      · rw [if_pos y, if_pos (show acc < σ (a + 1) k + 1 by omega)]
        exact ⟨by omega, nx _ _ _ (by omega)⟩
      · rw [if_neg y, if_neg (show ¬ acc < σ (a + 1) k + 1 by omega)]
        exact b384_48 (nx _ _ _ q2)
    · rw [if_neg (show ¬ σ 725 (40 * d + k) < 1000 by omega), if_neg (show ¬ σ (a + 1) k < 500 by omega)]
      exact b384_48 (nx _ _ _ q2)
theorem d384 {σ : Sg} {a d n : Nat} (h : Dl σ a d n) : Dd 384 [vA 682, vI d] σ (rI (rS (σ (a + 1)) n 0 0) σ) := b384 (l384 h n 0 0 none (by omega) (by omega))
theorem cp680 : isRow 680 = true ∧ cap 680 = 40 := by decide +kernel
/-- a new delta is the scratch row -/
theorem d37 {σ : Sg} {D : Nat} {l : List Int} (hD : σ 658 1 = (D : Nat)) (h10 : D < 10) (hl : Rw σ 680 l) (h40 : l.length ≤ 40) : ∃ s, Dd 37 [vA 658] σ (rI D s) ∧ Rw s (660 + 2 * D) l ∧ s 658 1 = (D : Int) + 1 ∧ ∀ c k, ¬ c = 660 + 2 * D → ¬ c = 660 + 2 * D + 1 → ¬ c = 658 → s c k = σ c k := by
  have he := el_659 (i := (D : Int)) (by omega)
  have hc := cp_659 (i := (D : Int)) (by omega)
  rw [show ((D : Int)).toNat = D by omega] at he hc
  have hcp : σ 680 1 ≤ (cap (660 + 2 * D) : Int) := by rw [hl.1]; omega
  have h8 : bcS σ (660 + 2 * D) 680 658 1 = (D : Nat) := by rw [bc_off (by omega) (by omega)]; exact hD
  refine ⟨upS (bcS σ (660 + 2 * D) 680) 658 1 ((D : Int) + 1), b37 ?_, ⟨?_, fun i v hv => ?_⟩, up_s, fun c k h1 h2 h3 => by rw [up_a h3, bc_off h1 h2]⟩
  · rw [if_pos (show σ 658 1 < 10 by omega), hD, show ((D : Nat) : Int).toNat = D by omega]
    refine ⟨by omega, _, he.1, he.2, _, d155 he.2 (Rw_wR cp680.1 hl (by rw [cp680.2]; exact h40)), ?_⟩
    rw [h8]
    refine ⟨by omega, b37_38 ?_⟩
    rw [up_s, show ((D : Nat) : Int) + 1 - 1 = (D : Int) by omega]
    exact ⟨by omega, rfl⟩
  · rw [up_a (by omega), bc_sz hcp]; exact hl.1
  · have hi := (List.getElem?_eq_some_iff.mp hv).1
    rw [up_a (by omega), bc_val hcp (by omega) (by rw [hl.1]; omega)]
    exact hl.2 i v hv
/-- what each code of a second delta comes to by a first one -/
def thr (f g : Nat → Int) (k : Nat) : Int := if g k < 500 then f (g k).toNat else g k
theorem l43 {a b n m : Nat} {f g : Nat → Int} (ha : isRow a = true) (hb : isRow b = true) (hn : n ≤ 40 ∧ cap a = 40) (hm : m ≤ 40 ∧ cap b = 40) (hab : ¬ a = 680 ∧ ¬ a = 681 ∧ ¬ b = 680 ∧ ¬ b = 681 ∧ a < 680 ∧ b < 680) (hg : ∀ k, k < m → 0 ≤ g k ∧ (g k < 500 → g k < n)) {D : Nat} (h10 : D < 10) : ∀ (w k : Nat) (σ : Sg) (l : List Int) (d4 : Option AV), k + w = m → σ a 1 = (n : Nat) → σ b 1 = (m : Nat) → (∀ i, i < n → σ (a + 1) i = f i) → (∀ i, i < m → σ (b + 1) i = g i) → σ 658 1 = (D : Nat) → Rw σ 680 l → l.length = k → (¬ a + 1 = 680 ∧ ¬ a + 1 = 681 ∧ ¬ b + 1 = 680 ∧ ¬ b + 1 = 681) → ∃ s, C43_9 a b k d4 σ (rI D s) ∧ Rw s (660 + 2 * D) (l ++ (List.range' k w).map (thr f g)) ∧ s 658 1 = (D : Int) + 1 ∧ (∀ c j, ¬ c = 660 + 2 * D → ¬ c = 660 + 2 * D + 1 → ¬ c = 658 → ¬ c = 680 → ¬ c = 681 → s c j = σ c j) ∧ 0 ≤ s 680 1 ∧ s 680 1 ≤ 40 := by
  intro w
  induction w with
  | zero =>
    intro k σ l d4 q1 q2 q3 q4 q5 q6 q7 q8 q9
    obtain ⟨s, g1, g2, g3, g4⟩ := d37 q6 h10 q7 (by omega)
    refine ⟨s, b43_9 hb ha ⟨_, _, d146 hb, ?_⟩, ?_, g3, fun c j h1 h2 h3 _ _ => g4 c j h1 h2 h3, by rw [g4 680 1 (by omega) (by omega) (by omega), q7.1]; omega, by rw [g4 680 1 (by omega) (by omega) (by omega), q7.1]; omega⟩
    · rw [if_neg (by omega)]
      exact ⟨_, _, g1, rfl⟩
    · simpa using g2
  | succ w ih =>
    intro k σ l d4 q1 q2 q3 q4 q5 q6 q7 q8 q9
    have hk : k < m := by omega
    have wb : wR σ b := ⟨hb, by omega, by omega⟩
    have wa : wR σ a := ⟨ha, by omega, by omega⟩
    have hd := d147 (i := (k : Int)) wb
    rw [at_in q3 hk, q5 k hk] at hd
    have w8 := Rw_wR cp680.1 q7 (by rw [cp680.2]; omega)
    have hgk := hg k hk
    have nx : ∀ (d4 : Option AV), ∃ s, C43_47 a b k d4 (thr f g k) σ (rI D s) ∧ Rw s (660 + 2 * D) (l ++ (List.range' k (w + 1)).map (thr f g)) ∧ s 658 1 = (D : Int) + 1 ∧ (∀ c j, ¬ c = 660 + 2 * D → ¬ c = 660 + 2 * D + 1 → ¬ c = 658 → ¬ c = 680 → ¬ c = 681 → s c j = σ c j) ∧ 0 ≤ s 680 1 ∧ s 680 1 ≤ 40 := by
      intro d4
      have off : ∀ c j, ¬ c = 680 → ¬ c = 681 → adS σ 680 (thr f g k) c j = σ c j := fun c j h1 h2 => ad_off h1 h2
      obtain ⟨s, g1, g2, g3, g4, g5⟩ := ih (k + 1) (adS σ 680 (thr f g k)) (l ++ [thr f g k]) d4 (by omega) (by rw [off _ _ hab.1 hab.2.1]; exact q2) (by rw [off _ _ hab.2.2.1 hab.2.2.2.1]; exact q3) (fun i hi => by rw [off _ _ q9.1 q9.2.1]; exact q4 i hi) (fun i hi => by rw [off _ _ q9.2.2.1 q9.2.2.2]; exact q5 i hi) (by rw [off _ _ (by decide) (by decide)]; exact q6) (Rw_ad q7 (by rw [cp680.2]; omega)) (by rw [List.length_append, q8]; rfl) q9
      refine ⟨s, b43_47 ⟨_, d149 w8, by omega, ?_⟩, ?_, g3, fun c j h1 h2 h3 h4 h5 => by rw [g4 c j h1 h2 h3 h4 h5, off _ _ h4 h5], g5⟩
      · rw [show (k : Int) + 1 = ((k + 1 : Nat) : Int) by omega]
        exact g1
      · rw [List.append_assoc] at g2
        rw [List.range'_succ, List.map_cons]
        exact g2
    obtain ⟨s, g1, g2⟩ := nx (some (vI (g k)))
    refine ⟨s, b43_9 hb ha ⟨_, _, d146 hb, ?_⟩, g2⟩
    rw [if_pos (by omega)]
    refine ⟨_, _, hd, _, _, d41, ?_⟩
    by_cases z : g k < 500
    · rw [if_pos z, if_neg (show ¬ (1 : Int) = 0 by decide)]
      have hd2 := d147 (i := g k) wa
      have e2 : atS σ a (g k) = thr f g k := by
        have := hgk.2 z
        unfold atS thr
        rw [if_pos ⟨hgk.1, by omega⟩, if_pos z]
        exact q4 _ (by omega)
      rw [e2] at hd2
      exact ⟨_, _, hd2, g1⟩
    · rw [if_neg z, if_pos rfl]
      unfold thr at g1
      rw [if_neg z] at g1
      exact g1
/-- the model's chain -/
theorem l385 {a b m D : Nat} {F : Nat → Int} (ha : a < 10) (hb : b < 10) (h10 : D < 10) (hm : m ≤ 40) (hna : ¬ a = D) (hnb : ¬ b = D) {d3 : Option AV} : ∀ (w k : Nat) (σ : Sg) (d5 : Option AV), k + w = m → σ 724 b = (m : Nat) → σ 682 58 = (D : Nat) → (∀ i, i < m → 0 ≤ σ 725 (40 * b + i) ∧ (σ 725 (40 * b + i) < 1000 → σ 725 (40 * b + i) < 40)) → (∀ i, i < m → F i = (if σ 725 (40 * b + i) < 1000 then σ 725 (40 * a + (σ 725 (40 * b + i)).toNat) else σ 725 (40 * b + i))) → ∃ s, C385_70 a b d3 k d5 σ (rI D s) ∧ (∀ i, k ≤ i → i < m → s 725 (40 * D + i) = F i) ∧ (∀ i, ¬ (40 * D + k ≤ i ∧ i < 40 * D + m) → s 725 i = σ 725 i) ∧ s 724 D = (m : Nat) ∧ s 682 58 = (D : Int) + 1 ∧ ∀ c j, ¬ c = 725 → ¬ (c = 724 ∧ j = D) → ¬ (c = 682 ∧ j = 58) → s c j = σ c j := by
  intro w
  induction w with
  | zero =>
    intro k σ d5 q1 q2 q3 q4 q5
    refine ⟨upS (upS σ 724 D (m : Nat)) 682 58 ((D : Int) + 1), b385_70 ⟨by omega, ?_⟩, fun i h1 h2 => by omega, fun i _ => by rw [up_a (by decide), up_a (by decide)], by rw [up_a (by decide), up_s], up_s, fun c j h1 h2 h3 => ?_⟩
    · rw [show ((b : Int)).toNat = b by omega, q2, if_neg (by omega), q3, show ((D : Nat) : Int).toNat = D by omega, up_a (show ¬ 682 = 724 by decide), q3, up_s]
      refine ⟨by omega, by omega, by omega, by omega, ?_⟩
      rw [show ((D : Nat) : Int) + 1 - 1 = (D : Int) by omega]
    · unfold upS
      rw [if_neg (by omega), if_neg (by omega)]
  | succ w ih =>
    intro k σ d5 q1 q2 q3 q4 q5
    have hk : k < m := by omega
    have c := q4 k hk
    have hF := q5 k hk
    have off : ∀ c j, ¬ c = 725 → upS σ 725 (40 * D + k) (F k) c j = σ c j := fun c j h => up_a h
    have rd : ∀ e i, ¬ e = D → i < 40 → upS σ 725 (40 * D + k) (F k) 725 (40 * e + i) = σ 725 (40 * e + i) := fun e i h1 h2 => up_k (by omega)
    obtain ⟨s, g1, g2, g3, g4, g5, g6⟩ := ih (k + 1) (upS σ 725 (40 * D + k) (F k)) (some (vI (σ 725 (40 * b + k)))) (by omega) (by rw [off _ _ (by decide)]; exact q2) (by rw [off _ _ (by decide)]; exact q3) (fun i hi => by rw [rd _ _ hnb (by omega)]; exact q4 i hi) (fun i hi => by
      have ci := q4 i hi
      rw [rd _ _ hnb (by omega), q5 i hi]
      by_cases z : σ 725 (40 * b + i) < 1000
      · rw [if_pos z, if_pos z, rd _ _ hna (by omega)]
      · rw [if_neg z, if_neg z])
    refine ⟨s, b385_70 ⟨by omega, ?_⟩, fun i h1 h2 => ?_, fun i hi => ?_, g4, g5, fun c j h1 h2 h3 => by rw [g6 c j h1 h2 h3, off _ _ h1]⟩
    · rw [show ((b : Int)).toNat = b by omega, q2, if_pos (by omega), show ((40 * (b : Int)) + (k : Int)).toNat = 40 * b + k by omega, q3]
      refine ⟨by omega, by omega, by omega, by omega, by omega, fun z => by omega, fun z => by have := c.2 z; omega, fun z => by have := c.2 z; omega, b385_134 ⟨by omega, by omega, ?_⟩⟩
      have e : (if σ 725 (40 * b + k) < 1000 then σ 725 ((40 * (a : Int)) + σ 725 (40 * b + k)).toNat else σ 725 (40 * b + k)) = F k := by
        rw [hF]
        by_cases z : σ 725 (40 * b + k) < 1000
        · rw [if_pos z, if_pos z]
          congr 1
          omega
        · rw [if_neg z, if_neg z]
      rw [e, show ((40 * ((D : Nat) : Int)) + (k : Int)).toNat = 40 * D + k by omega, show (k : Int) + 1 = ((k + 1 : Nat) : Int) by omega]
      exact g1
    · by_cases z : i = k
      · subst z
        rw [g3 _ (by omega), up_s]
      · exact g2 i (by omega) h2
    · rw [g3 i (by omega), up_k (by omega)]
end
-- DRAFT 66.bytes4.lean
/-! chain: the call; what a new delta leaves. -/
noncomputable section
theorem Rel_D {σ s : Sg} {c0 c1 : Int} {D : Nat} {l : List Int} (hc : c0 ≤ c1) (hD : σ 658 1 = (D : Nat)) (h10 : D < 10) (h : ∀ c k, ¬ (c = 726 ∨ (c = 682 ∧ (k = 0 ∨ k = 58)) ∨ c = 658 ∨ c = 660 + 2 * D ∨ c = 660 + 2 * D + 1 ∨ c = 680 ∨ c = 681 ∨ (c = 724 ∧ k = D) ∨ (c = 725 ∧ 40 * D ≤ k)) → s c k = σ c k) (h1 : s 658 1 = (D : Int) + 1) (h2 : s 682 58 = (D : Int) + 1) (hl : Rw s (660 + 2 * D) l) (h40 : l.length ≤ 40) (h3 : s 724 D = (l.length : Nat)) (h4 : ∀ i v, l[i]? = some v → cdR v (s 725 (40 * D + i))) (h5 : 0 ≤ s 680 1 ∧ s 680 1 ≤ 40) (H : Rel c0 σ) : Rel c1 s := by
  obtain ⟨g1, g2, g3, g4, g5, g6, g7, g8, g9⟩ := H
  refine ⟨fun a ha => ?_, Zl_fr (fun k => h _ _ (by omega)) g2, RT_fr (fun c k hc => h _ _ (by omega)) g3, RB_fr (fun c k hc => h _ _ (by omega)) g4, RP_fr (fun c k hc => h _ _ (by omega)) g5, RSt_fr hc (fun c k hc => h _ _ (by omega)) g6, RU_fr (fun c k hc => h _ _ (by omega)) g7, RF_fr (fun c k hc => h _ _ (by omega)) g8, ?_⟩
  · have hlt := row_lt ha
    have n1 : ¬ a = 658 := by intro e; subst e; exact absurd ha (by decide +kernel)
    have n2 : ¬ a = 681 := by intro e; subst e; exact absurd ha (by decide +kernel)
    have he := el_659 (i := (D : Int)) (by omega)
    have hcp := cp_659 (i := (D : Int)) (by omega)
    rw [show ((D : Int)).toNat = D by omega] at he hcp
    by_cases e1 : a = 660 + 2 * D
    · rw [e1, hl.1]
      omega
    · by_cases e2 : a = 680
      · rw [e2, cp680.2]; exact h5
      · have n3 := row_nx he.2 ha
        rw [h _ _ (by omega)]
        exact g1 a ha
  · obtain ⟨q1, q2, q3, q4⟩ := g9
    refine ⟨by omega, by omega, by omega, fun d hd => ?_⟩
    by_cases e : d = D
    · subst e
      refine ⟨by rw [hl.1, h3], fun i hi => ?_⟩
      rw [hl.1] at hi
      have hv := List.getElem?_eq_getElem (l := l) (i := i) (by omega)
      rw [hl.2 i _ hv]
      rcases h4 i _ hv with ⟨z1, z2, z3⟩ | ⟨z1, z2, z3⟩
      · exact Or.inl ⟨z1, z2, z3⟩
      · exact Or.inr ⟨z1, z2, z3⟩
    · obtain ⟨p1, p2⟩ := q4 d (by omega)
      have w := g1 _ (el_659 (i := (d : Int)) (by omega)).2
      have hcp := cp_659 (i := (d : Int)) (by omega)
      rw [show ((d : Int)).toNat = d by omega] at w hcp
      refine ⟨by rw [h _ _ (by omega), h _ _ (by omega)]; exact p1, fun i hi => ?_⟩
      rw [h _ _ (by omega)] at hi
      rw [h (660 + 2 * d + 1) i (by omega), h 725 _ (by omega)]
      exact p2 i hi
theorem Dl_fr {σ s : Sg} {a d n : Nat} (h1 : s a 1 = σ a 1) (h2 : ∀ k, s (a + 1) k = σ (a + 1) k) (h3 : s 724 d = σ 724 d) (h4 : ∀ k, s 725 k = σ 725 k) (H : Dl σ a d n) : Dl s a d n := by
  obtain ⟨g1, g2, g3, g4, g5, g6, g7⟩ := H
  exact ⟨g1, g2, by rw [h1]; exact g3, g4, g5, by rw [h3]; exact g6, fun k hk => by rw [h2, h4]; exact g7 k hk⟩
theorem o51 {σ : Sg} {c a1 a2 : Int} (H : Rel c σ) : OpR 439 385 [vA 0, vI a1, vI a2, vA 726] [vA 682, vI a1, vI a2] σ (c + 1) := by
  by_cases g1 : a1 < 0
  · exact x51_0 H g1
  by_cases g2 : σ 658 1 ≤ a1
  · exact x51_1 H g2
  have k1 : 0 ≤ a1 ∧ a1 < σ 658 1 := by omega
  by_cases g3 : a2 < 0
  · exact x51_2 H k1 g3
  by_cases g4 : σ 658 1 ≤ a2
  · exact x51_3 H k1 g4
  have k2 : 0 ≤ a2 ∧ a2 < σ 658 1 := by omega
  have hn := (rel_n H).2.2.2.2
  have hD1 := rel_d H k1
  have hD2 := rel_d H k2
  obtain ⟨t1, ht1⟩ := Int.eq_ofNat_of_zero_le k1.1
  obtain ⟨t2, ht2⟩ := Int.eq_ofNat_of_zero_le k2.1
  have kk1 := d229_ok H k1
  have kk2 := d229_ok H k2
  rw [show a1.toNat = t1 by omega] at hD1 kk1
  rw [show a2.toNat = t2 by omega] at hD2 kk2
  generalize hnn : (σ (660 + 2 * t1) 1).toNat = n at hD1
  generalize hmm : (σ (660 + 2 * t2) 1).toNat = m at hD2
  have m0 : ∀ {o : Rs} {y : Int}, C385_21 a1 a2 none none none 1 σ o → Dd 385 [vA 682, vI a1, vI a2] σ o := by
    intro o y hh
    refine b385 ⟨_, _, d383_ok (by omega), ?_⟩
    rw [if_neg (show ¬ (1 : Int) = 0 by decide)]
    refine ⟨_, _, d383_ok (by omega), ?_⟩
    rw [if_neg (show ¬ (1 : Int) = 0 by decide)]
    exact hh
  have cls : ∀ {o : Rs}, ((∃ (s12 : Sg), Dd 241 [vA 0, vA (660 + 2 * t2), vI (n : Nat)] σ (.inl none, s12) ∧ ((∃ (s14 : Sg), Dd 240 [vA 0] s12 (.inl none, s14) ∧ (∃ (v17 : Int) (s16 : Sg), Dd 43 [vA 658, vA (660 + 2 * t1), vA (660 + 2 * t2)] s14 (.inl (some (.inl v17)), s16) ∧ o = (.inl (some (.inl v17)), s16))) ∨ (∃ (E0 : Nat) (s0 : Sg), Dd 240 [vA 0] s12 (.inr E0, s0) ∧ o = (.inr E0, s0)))) ∨ (∃ (E0 : Nat) (s0 : Sg), Dd 241 [vA 0, vA (660 + 2 * t2), vI (n : Nat)] σ (.inr E0, s0) ∧ o = (.inr E0, s0))) → Dd 223 [vA 0, vI a1, vI a2] σ o := by
    intro o hh
    have e6 := d146 (σ := σ) hD1.1
    rw [hD1.2.2.1] at e6
    exact b223 (Or.inl ⟨_, _, kk1, hD1.1, Or.inl ⟨_, _, kk2, hD2.1, _, _, e6, hh⟩⟩)
  have e384 := d384 hD2
  rw [← ht2] at e384
  by_cases g5 : (n : Int) < rS (σ (660 + 2 * t2 + 1)) m 0 0
  · have hA : Dd 223 [vA 0, vI a1, vI a2] σ (rX 2 σ) := by
      refine cls (Or.inr ⟨_, _, b241 ⟨_, _, d42 hD2, ?_⟩, rfl⟩)
      rw [if_pos g5]
    have hB : Dd 385 [vA 682, vI a1, vI a2] σ (rI 0 (upS σ 682 0 2)) := by
      refine m0 (y := 0) (b385_21 ?_)
      rw [if_neg (show ¬ (1 : Int) = 0 by decide)]
      refine ⟨_, _, e384, by omega, ?_⟩
      have e724 := hD1.2.2.2.2.2.1
      rw [show a1.toNat = t1 by omega, if_neg (by omega)]
      refine b385_54 (b385_59 ⟨_, _, d245, ?_⟩)
      rw [if_neg (show ¬ (2 : Int) = 0 by decide), if_pos rfl]
    exact op_x H (by decide) (b439 (Or.inr (Or.inr ⟨_, hA, rfl⟩))) hB
  by_cases g6 : 10 ≤ σ 658 1
  · have hA : Dd 223 [vA 0, vI a1, vI a2] σ (rX 2 σ) := by
      refine cls (Or.inl ⟨_, b241 ⟨_, _, d42 hD2, by rw [if_neg g5]⟩, Or.inr ⟨_, _, b240 (by rw [if_pos g6]), rfl⟩⟩)
    have hB : Dd 385 [vA 682, vI a1, vI a2] σ (rI 0 (upS σ 682 0 2)) := by
      refine m0 (y := 0) (b385_21 ?_)
      rw [if_neg (show ¬ (1 : Int) = 0 by decide)]
      refine ⟨_, _, e384, by omega, ?_⟩
      have e724 := hD1.2.2.2.2.2.1
      rw [show a1.toNat = t1 by omega, if_pos (by omega), if_pos (by omega)]
      refine b385_54 (b385_59 ⟨_, _, d245, ?_⟩)
      rw [if_neg (show ¬ (2 : Int) = 0 by decide), if_pos rfl]
    exact op_x H (by decide) (b439 (Or.inr (Or.inr ⟨_, hA, rfl⟩))) hB
  obtain ⟨D, hDD⟩ := Int.eq_ofNat_of_zero_le (show 0 ≤ σ 658 1 by omega)
  have hge := (rS_ge (f := σ (660 + 2 * t2 + 1)) m 0 0).2
  have cd1 := hD1.2.2.2.2.2.2
  have cd2 := hD2.2.2.2.2.2.2
  have hgg : ∀ k, k < m → 0 ≤ σ (660 + 2 * t2 + 1) k ∧ (σ (660 + 2 * t2 + 1) k < 500 → σ (660 + 2 * t2 + 1) k < n) := by
    intro k hk
    refine ⟨?_, fun z => ?_⟩
    · rcases cd2 k hk with ⟨z1, z2, z3⟩ | ⟨z1, z2, z3⟩ <;> omega
    · have := hge k (by omega) (by omega) z
      omega
  have off0 : ∀ c k, ¬ c = 680 → upS σ 680 1 0 c k = σ c k := fun c k h => up_a h
  obtain ⟨s1, c1, c2, c3, c4, c5⟩ := l43 (f := σ (660 + 2 * t1 + 1)) (g := σ (660 + 2 * t2 + 1)) hD1.1 hD2.1 ⟨hD1.2.2.2.1, hD1.2.1⟩ ⟨hD2.2.2.2.1, hD2.2.1⟩ (by omega) hgg (D := D) (by omega) m 0 (upS σ 680 1 0) [] none (by omega) (by rw [off0 _ _ (by omega)]; exact hD1.2.2.1) (by rw [off0 _ _ (by omega)]; exact hD2.2.2.1) (fun i _ => off0 _ _ (by omega)) (fun i _ => off0 _ _ (by omega)) (by rw [off0 _ _ (by decide)]; exact hDD) Rw_nil rfl (by omega)
  have hA : Dd 223 [vA 0, vI a1, vI a2] σ (rI D s1) := by
    refine cls (Or.inl ⟨_, b241 ⟨_, _, d42 hD2, by rw [if_neg g5]⟩, Or.inl ⟨_, b240 (by rw [if_neg g6]), _, _, b43 ⟨_, d152 cp680.1, c1⟩, rfl⟩⟩)
  have hW := b439 (Or.inl ⟨_, _, hA, rfl⟩)
  have f2 : ∀ c k, ¬ c = 660 + 2 * D → ¬ c = 660 + 2 * D + 1 → ¬ c = 658 → ¬ c = 680 → ¬ c = 681 → ¬ c = 726 → ¬ (c = 682 ∧ k = 0) → upS (upS s1 726 0 (D : Nat)) 682 0 0 c k = σ c k := by
    intro c k h1 h2 h3 h4 h5 h6 h7
    have : upS (upS s1 726 0 (D : Nat)) 682 0 0 c k = s1 c k := by
      unfold upS
      rw [if_neg (by omega), if_neg (by omega)]
    rw [this, c4 c k h1 h2 h3 h4 h5, off0 _ _ h4]
  have hm40 := hD2.2.2.2.1
  obtain ⟨s2, m1, m2, m3, m4, m5, m6⟩ := l385 (a := t1) (b := t2) (m := m) (D := D) (F := fun i => (if σ 725 (40 * t2 + i) < 1000 then σ 725 (40 * t1 + (σ 725 (40 * t2 + i)).toNat) else σ 725 (40 * t2 + i))) (by omega) (by omega) (by omega) hm40 (by omega) (by omega) (d3 := some (vI 1)) m 0 (upS (upS s1 726 0 (D : Nat)) 682 0 0) none (by omega) (by rw [f2 _ _ (by omega) (by omega) (by decide) (by decide) (by decide) (by decide) (by decide)]; exact hD2.2.2.2.2.2.1) (by rw [f2 _ _ (by omega) (by omega) (by decide) (by decide) (by decide) (by decide) (by decide)]; omega) (fun i hi => by
    rw [f2 _ _ (by omega) (by omega) (by decide) (by decide) (by decide) (by decide) (by decide)]
    rcases cd2 i hi with ⟨z1, z2, z3⟩ | ⟨z1, z2, z3⟩ <;> omega) (fun i hi => by
    rw [f2 725 (40 * t2 + i) (by omega) (by omega) (by decide) (by decide) (by decide) (by decide) (by decide), f2 725 (40 * t1 + _) (by omega) (by omega) (by decide) (by decide) (by decide) (by decide) (by decide)])
  rw [← ht1, ← ht2] at m1
  have D1' : Dl (upS s1 726 0 (D : Nat)) (660 + 2 * t2) t2 m := by
    have ff : ∀ c k, ¬ c = 660 + 2 * D → ¬ c = 660 + 2 * D + 1 → ¬ c = 658 → ¬ c = 680 → ¬ c = 681 → ¬ c = 726 → upS s1 726 0 (D : Nat) c k = σ c k := fun c k h1 h2 h3 h4 h5 h6 => by rw [up_a h6, c4 c k h1 h2 h3 h4 h5, off0 _ _ h4]
    exact Dl_fr (ff _ _ (by omega) (by omega) (by omega) (by omega) (by omega) (by omega)) (fun k => ff _ _ (by omega) (by omega) (by omega) (by omega) (by omega) (by omega)) (ff _ _ (by omega) (by omega) (by omega) (by omega) (by omega) (by omega)) (fun k => ff _ _ (by omega) (by omega) (by omega) (by omega) (by omega) (by omega)) hD2
  have ff : ∀ c k, ¬ c = 660 + 2 * D → ¬ c = 660 + 2 * D + 1 → ¬ c = 658 → ¬ c = 680 → ¬ c = 681 → ¬ c = 726 → upS s1 726 0 (D : Nat) c k = σ c k := fun c k h1 h2 h3 h4 h5 h6 => by rw [up_a h6, c4 c k h1 h2 h3 h4 h5, off0 _ _ h4]
  have er : upS s1 726 0 (D : Nat) (660 + 2 * t2 + 1) = σ (660 + 2 * t2 + 1) := funext (fun k => ff _ _ (by omega) (by omega) (by omega) (by omega) (by omega) (by omega))
  have e384' := d384 D1'
  rw [← ht2, er] at e384'
  have hB : Dd 385 [vA 682, vI a1, vI a2] (upS s1 726 0 (D : Nat)) (rI D s2) := by
    refine b385 ⟨_, _, d383_ok (by rw [ff _ _ (by omega) (by omega) (by omega) (by omega) (by omega) (by omega)]; omega), ?_⟩
    rw [if_neg (show ¬ (1 : Int) = 0 by decide)]
    refine ⟨_, _, d383_ok (by rw [ff _ _ (by omega) (by omega) (by omega) (by omega) (by omega) (by omega)]; omega), ?_⟩
    rw [if_neg (show ¬ (1 : Int) = 0 by decide)]
    refine b385_21 ?_
    rw [if_neg (show ¬ (1 : Int) = 0 by decide)]
    refine ⟨_, _, e384', by omega, ?_⟩
    have e724 := hD1.2.2.2.2.2.1
    rw [show a1.toNat = t1 by omega, ff 724 _ (by omega) (by omega) (by omega) (by omega) (by omega) (by omega), if_pos (by omega), ff 682 _ (by omega) (by omega) (by omega) (by omega) (by omega) (by omega), if_neg (by omega)]
    refine b385_59 ⟨_, _, d245, ?_⟩
    rw [if_pos rfl, if_neg (show ¬ (1 : Int) = 0 by decide)]
    exact m1
  have hoff : ∀ c k, ¬ (c = 726 ∨ (c = 682 ∧ (k = 0 ∨ k = 58)) ∨ c = 658 ∨ c = 660 + 2 * D ∨ c = 660 + 2 * D + 1 ∨ c = 680 ∨ c = 681 ∨ (c = 724 ∧ k = D) ∨ (c = 725 ∧ 40 * D ≤ k)) → s2 c k = σ c k := by
    intro c k hc
    by_cases z : c = 725
    · subst z
      rw [m3 k (by omega), f2 _ _ (by omega) (by omega) (by omega) (by omega) (by omega) (by omega) (by omega)]
    · rw [m6 c k z (by omega) (by omega), f2 _ _ (by omega) (by omega) (by omega) (by omega) (by omega) (by omega) (by omega)]
  have hcl : ∀ c k, c < 682 → s2 c k = s1 c k := by
    intro c k hc
    rw [m6 c k (by omega) (by omega) (by omega), up_a (by omega), up_a (by omega)]
  have hlen : ([] ++ (List.range' 0 m).map (thr (σ (660 + 2 * t1 + 1)) (σ (660 + 2 * t2 + 1)))).length = m := by simp
  refine op_fin hW hB ?_ (fun _ => ?_) (fun a k ha => by rw [up_a (by omega), c4 _ _ (by omega) (by omega) (by omega) (by omega) (by omega), off0 _ _ (by omega)]) (fun a k ha => hoff _ _ (by omega)) ?_
  · rw [m6 _ _ (by decide) (by omega) (by omega), up_s]
  · rw [m6 _ _ (by decide) (by omega) (by omega), up_a (by decide), up_s]
  · refine Rel_D (D := D) (by omega) hDD (by omega) hoff (by rw [hcl _ _ (by decide)]; exact c3) m5 (Rw_fr (hcl _ _ (by omega)) (fun k => hcl _ _ (by omega)) c2) (by rw [hlen]; exact hm40) (by rw [hlen]; exact m4) (fun i v hv => ?_) ?_ H
    · have hi := (List.getElem?_eq_some_iff.mp hv).1
      rw [hlen] at hi
      rw [m2 i (by omega) hi]
      have ev : v = thr (σ (660 + 2 * t1 + 1)) (σ (660 + 2 * t2 + 1)) i := by
        rw [List.nil_append, List.getElem?_map, List.getElem?_range' hi] at hv
        simpa using hv.symm
      rw [ev]
      have q2 := cd2 i hi
      have hgi := hgg i hi
      unfold thr
      show cdR _ (if σ 725 (40 * t2 + i) < 1000 then σ 725 (40 * t1 + (σ 725 (40 * t2 + i)).toNat) else σ 725 (40 * t2 + i))
      rcases q2 with ⟨z1, z2, z3⟩ | ⟨z1, z2, z3⟩
      · rw [if_pos (by omega), if_pos (by omega), z3]
        exact cd1 _ (by have := hgi.2 (by omega); omega)
      · rw [if_neg (by omega), if_neg (by omega)]
        exact Or.inr ⟨z1, z2, z3⟩
    · rw [hcl _ _ (by decide)]
      exact c5
end
-- DRAFT 67.bytes5.lean
/-! putDelta. -/
noncomputable section
def ptb (f g : Nat → Int) (k : Nat) : Int := if f k < 500 then g (f k).toNat else f k - 500
theorem l44 {a b t n m : Nat} {f g : Nat → Int} (ha : isRow a = true) (hb : isRow b = true) (ht : isRow t = true) (hct : cap t = 40) (hn : n ≤ 40 ∧ cap a = 40) (hm : m ≤ 40 ∧ cap b = 40) (hab : a < 680 ∧ b < 680 ∧ t < 680 ∧ ¬ a + 1 = 680 ∧ ¬ b + 1 = 680 ∧ ¬ t + 1 = 680) (hf : ∀ k, k < n → 0 ≤ f k ∧ f k ≤ 1000 ∧ (f k < 500 → f k < m)) : ∀ (w k : Nat) (σ : Sg) (l : List Int) (d5 : Option AV), k + w = n → σ a 1 = (n : Nat) → σ b 1 = (m : Nat) → (∀ i, i < n → σ (a + 1) i = f i) → (∀ i, i < m → σ (b + 1) i = g i) → Rw σ 680 l → l.length = k → ∃ s, C44_10 a b t k d5 σ (rV s) ∧ Rw s t (l ++ (List.range' k w).map (ptb f g)) ∧ (∀ c j, ¬ c = t → ¬ c = t + 1 → ¬ c = 680 → ¬ c = 681 → s c j = σ c j) ∧ 0 ≤ s 680 1 ∧ s 680 1 ≤ 40 := by
  intro w
  induction w with
  | zero =>
    intro k σ l d5 q1 q2 q3 q4 q5 q7 q8
    have hcp : σ 680 1 ≤ (cap t : Int) := by rw [q7.1]; omega
    refine ⟨bcS σ t 680, b44_10 ha hb ht ⟨_, _, d146 ha, ?_⟩, ?_, fun c j h1 h2 _ _ => bc_off h1 h2, by rw [bc_off (by omega) (by omega), q7.1]; omega, by rw [bc_off (by omega) (by omega), q7.1]; omega⟩
    · rw [if_neg (by omega)]
      exact ⟨_, d155 ht (Rw_wR cp680.1 q7 (by rw [cp680.2]; omega)), rfl⟩
    · have : l ++ (List.range' k 0).map (ptb f g) = l := by simp
      rw [this]
      refine ⟨by rw [bc_sz hcp]; exact q7.1, fun i v hv => ?_⟩
      have hi := (List.getElem?_eq_some_iff.mp hv).1
      rw [bc_val hcp (by omega) (by rw [q7.1]; omega)]
      exact q7.2 i v hv
  | succ w ih =>
    intro k σ l d5 q1 q2 q3 q4 q5 q7 q8
    have hk : k < n := by omega
    have wb : wR σ b := ⟨hb, by omega, by omega⟩
    have wa : wR σ a := ⟨ha, by omega, by omega⟩
    have hd := d147 (i := (k : Int)) wa
    rw [at_in q2 hk, q4 k hk] at hd
    have w8 := Rw_wR cp680.1 q7 (by rw [cp680.2]; omega)
    have hfk := hf k hk
    have nx : ∀ (d5 : Option AV), ∃ s, C44_54 a b t k d5 (ptb f g k) σ (rV s) ∧ Rw s t (l ++ (List.range' k (w + 1)).map (ptb f g)) ∧ (∀ c j, ¬ c = t → ¬ c = t + 1 → ¬ c = 680 → ¬ c = 681 → s c j = σ c j) ∧ 0 ≤ s 680 1 ∧ s 680 1 ≤ 40 := by
      intro d5
      have off : ∀ c j, ¬ c = 680 → ¬ c = 681 → adS σ 680 (ptb f g k) c j = σ c j := fun c j h1 h2 => ad_off h1 h2
      obtain ⟨s, g1, g2, g3, g4⟩ := ih (k + 1) (adS σ 680 (ptb f g k)) (l ++ [ptb f g k]) d5 (by omega) (by rw [off _ _ (by omega) (by omega)]; exact q2) (by rw [off _ _ (by omega) (by omega)]; exact q3) (fun i hi => by rw [off _ _ (by omega) (by omega)]; exact q4 i hi) (fun i hi => by rw [off _ _ (by omega) (by omega)]; exact q5 i hi) (Rw_ad q7 (by rw [cp680.2]; omega)) (by rw [List.length_append, q8]; rfl)
      refine ⟨s, b44_54 ⟨_, d149 w8, by omega, ?_⟩, ?_, fun c j h1 h2 h4 h5 => by rw [g3 c j h1 h2 h4 h5, off _ _ h4 h5], g4⟩
      · rw [show (k : Int) + 1 = ((k + 1 : Nat) : Int) by omega]
        exact g1
      · rw [List.append_assoc] at g2
        rw [List.range'_succ, List.map_cons]
        exact g2
    obtain ⟨s, g1, g2⟩ := nx (some (vI (f k)))
    refine ⟨s, b44_10 ha hb ht ⟨_, _, d146 ha, ?_⟩, g2⟩
    rw [if_pos (by omega)]
    refine ⟨_, _, hd, _, _, d41, ?_⟩
    by_cases z : f k < 500
    · rw [if_pos z, if_neg (show ¬ (1 : Int) = 0 by decide)]
      have hd2 := d147 (i := f k) wb
      have e2 : atS σ b (f k) = ptb f g k := by
        have := hfk.2.2 z
        unfold atS ptb
        rw [if_pos ⟨hfk.1, by omega⟩, if_pos z]
        exact q5 _ (by omega)
      rw [e2] at hd2
      exact ⟨_, _, hd2, g1⟩
    · rw [if_neg z, if_pos rfl]
      refine ⟨by omega, ?_⟩
      unfold ptb at g1
      rw [if_neg z] at g1
      exact g1
theorem l389b {d t n : Nat} (hd : d < 10) (ht : t < 4) (hn : n ≤ 40) {d2 d4 d6 : Option AV} : ∀ (w i : Nat) (σ : Sg), i + w = n → σ 724 d = (n : Nat) → C389_151 d d2 t d4 i d6 σ (rI (n : Nat) (acS σ 722 (40 * t) 705 0 i n)) := by
  intro w
  induction w with
  | zero =>
    intro i σ h1 h2
    refine b389_151 ⟨by omega, ?_⟩
    rw [show ((d : Int)).toNat = d by omega, h2, if_neg (by omega), show i = n by omega, acS_end]
    exact ⟨by omega, rfl⟩
  | succ w ih =>
    intro i σ h1 h2
    refine b389_151 ⟨by omega, ?_⟩
    rw [show ((d : Int)).toNat = d by omega, h2, if_pos (by omega)]
    refine ⟨by omega, by omega, by omega, by omega, by omega, ?_⟩
    have e := ih (i + 1) (upS σ 722 (40 * t + i) (σ 705 (0 + i))) (by omega) (by rw [up_a (by decide)]; exact h2)
    rw [acS_step (by omega) (by decide)] at e
    rw [show ((i : Int)).toNat = 0 + i by omega, show ((40 * (t : Int)) + (i : Int)).toNat = 40 * t + i by omega, show (i : Int) + 1 = ((i + 1 : Nat) : Int) by omega]
    exact e
theorem l389 {d b t n : Nat} {G : Nat → Int} (hd : d < 10) (hb : b < 4) (ht : t < 4) (hn : n ≤ 40) {d4 : Option AV} : ∀ (w k : Nat) (σ : Sg) (d6 : Option AV), k + w = n → σ 724 d = (n : Nat) → (∀ i, i < n → 0 ≤ σ 725 (40 * d + i) ∧ σ 725 (40 * d + i) ≤ 2000 ∧ (σ 725 (40 * d + i) < 1000 → σ 725 (40 * d + i) < 40)) → (∀ i, i < n → G i = (if σ 725 (40 * d + i) < 1000 then σ 722 (40 * b + (σ 725 (40 * d + i)).toNat) else σ 725 (40 * d + i) - 1000)) → (∀ i, i < k → σ 705 i = G i) → ∃ s, C389_69 d b t d4 k d6 σ (rI (n : Nat) s) ∧ (∀ i, i < n → s 722 (40 * t + i) = G i) ∧ s 723 t = (n : Nat) ∧ ∀ c j, ¬ c = 705 → ¬ (c = 722 ∧ 40 * t ≤ j ∧ j < 40 * t + n) → ¬ (c = 723 ∧ j = t) → s c j = σ c j := by
  intro w
  induction w with
  | zero =>
    intro k σ d6 q1 q2 q3 q4 q5
    have e := l389b (d2 := some (vI b)) (d4 := d4) (d6 := d6) hd ht hn n 0 (upS σ 723 t (n : Nat)) (by omega) (by rw [up_a (by decide)]; exact q2)
    refine ⟨_, b389_69 ⟨by omega, ?_⟩, fun i hi => ?_, ?_, fun c j h1 h2 h3 => ?_⟩
    · exact acS (upS σ 723 t (n : Nat)) 722 (40 * t) 705 0 0 n
    · rw [show ((d : Int)).toNat = d by omega, q2, if_neg (by omega), show ((t : Int)).toNat = t by omega]
      exact ⟨by omega, by omega, e⟩
    · rw [acS_val hi, up_a (by decide), Nat.zero_add]
      exact q5 i (by omega)
    · rw [acS_off (by decide), up_s]
    · by_cases z : c = 722
      · rw [acS_out (by omega)]
        unfold upS
        rw [if_neg (by omega)]
      · rw [acS_off z]
        unfold upS
        rw [if_neg (by omega)]
  | succ w ih =>
    intro k σ d6 q1 q2 q3 q4 q5
    have hk : k < n := by omega
    have c := q3 k hk
    have off : ∀ c j, ¬ c = 705 → upS σ 705 k (G k) c j = σ c j := fun c j h => up_a h
    obtain ⟨s, g1, g2, g3, g4⟩ := ih (k + 1) (upS σ 705 k (G k)) (some (vI (σ 725 (40 * d + k)))) (by omega) (by rw [off _ _ (by decide)]; exact q2) (fun i hi => by rw [off _ _ (by decide)]; exact q3 i hi) (fun i hi => by rw [off 725 _ (by decide), off 722 _ (by decide)]; exact q4 i hi) (fun i hi => by
      by_cases z : i = k
      · rw [z, up_s]
      · rw [up_k z]; exact q5 i (by omega))
    refine ⟨s, b389_69 ⟨by omega, ?_⟩, g2, g3, fun c j h1 h2 h3 => by rw [g4 c j h1 h2 h3, off _ _ h1]⟩
    rw [show ((d : Int)).toNat = d by omega, q2, if_pos (by omega), show ((40 * (d : Int)) + (k : Int)).toNat = 40 * d + k by omega]
    refine ⟨by omega, by omega, by omega, fun z => by omega, fun z => by have := c.2.2 z; omega, fun z => by have := c.2.2 z; omega, fun z => by omega, b389_129 ⟨by omega, by omega, ?_⟩⟩
    have e : (if σ 725 (40 * d + k) < 1000 then σ 722 ((40 * (b : Int)) + σ 725 (40 * d + k)).toNat else σ 725 (40 * d + k) - 1000) = G k := by
      rw [q4 k hk]
      by_cases z : σ 725 (40 * d + k) < 1000
      · rw [if_pos z, if_pos z]
        congr 1
        omega
      · rw [if_neg z, if_neg z]
    rw [e, show ((k : Int)).toNat = k by omega, show (k : Int) + 1 = ((k + 1 : Nat) : Int) by omega]
    exact g1
theorem o54 {σ : Sg} {c a1 a2 a3 : Int} (H : Rel c σ) : OpR 442 389 [vA 0, vI a1, vI a2, vI a3, vA 726] [vA 682, vI a1, vI a2, vI a3] σ (c + 1) := by
  by_cases g1 : a1 < 0
  · exact x54_0 H g1
  by_cases g2 : σ 658 1 ≤ a1
  · exact x54_1 H g2
  have k1 : 0 ≤ a1 ∧ a1 < σ 658 1 := by omega
  by_cases g3 : a2 < 0
  · exact x54_2 H k1 g3
  by_cases g4 : 4 ≤ a2
  · exact x54_3 H k1 g4
  have k2 : 0 ≤ a2 ∧ a2 < 4 := by omega
  by_cases g5 : a3 < 0
  · exact x54_4 H k1 k2 g5
  by_cases g6 : 4 ≤ a3
  · exact x54_5 H k1 k2 g6
  have k3 : 0 ≤ a3 ∧ a3 < 4 := by omega
  have hn := (rel_n H).2.2.2.2
  have hD1 := rel_d H k1
  obtain ⟨b1, b2, b3⟩ := rel_b H k2
  obtain ⟨hb1, hb2⟩ := H.2.2.2.1 a2.toNat (by omega)
  have hr2 := (el_10 k2).2
  have hr3 := (el_10 k3).2
  have hc2 := cp_10 k2
  have hc3 := cp_10 k3
  obtain ⟨t1, ht1⟩ := Int.eq_ofNat_of_zero_le k1.1
  obtain ⟨t2, ht2⟩ := Int.eq_ofNat_of_zero_le k2.1
  obtain ⟨t3, ht3⟩ := Int.eq_ofNat_of_zero_le k3.1
  have kk1 := d229_ok H k1
  have kk2 := d228_ok (σ := σ) k2
  have kk3 := d228_ok (σ := σ) k3
  rw [show a1.toNat = t1 by omega] at hD1 kk1
  rw [show a2.toNat = t2 by omega] at kk2 b1 b2 b3 hb1 hb2 hr2 hc2
  rw [show a3.toNat = t3 by omega] at kk3 hr3 hc3
  generalize hnn : (σ (660 + 2 * t1) 1).toNat = n at hD1
  obtain ⟨m, hmm⟩ := Int.eq_ofNat_of_zero_le b2
  have n40 := hD1.2.2.2.1
  have e724 := hD1.2.2.2.2.2.1
  have cd1 := hD1.2.2.2.2.2.2
  have m0 : ∀ {σ' : Sg} {o : Rs}, σ' 682 58 = σ 682 58 → C389_27 a1 a2 a3 none none none 1 σ' o → Dd 389 [vA 682, vI a1, vI a2, vI a3] σ' o := by
    intro σ' o h8 hh
    refine b389 ⟨_, _, d383_ok (by omega), ?_⟩
    rw [if_neg (show ¬ (1 : Int) = 0 by decide)]
    refine ⟨_, _, d377_ok k2, ?_⟩
    rw [if_neg (show ¬ (1 : Int) = 0 by decide)]
    refine ⟨_, _, d377_ok k3, ?_⟩
    rw [if_neg (show ¬ (1 : Int) = 0 by decide)]
    exact hh
  have e384 := d384 hD1
  rw [← ht1] at e384
  have e6 := d146 (σ := σ) hr2
  rw [hmm] at e6
  by_cases g7 : (m : Int) < rS (σ (660 + 2 * t1 + 1)) n 0 0
  · have hA : Dd 226 [vA 0, vI a1, vI a2, vI a3] σ (rX 2 σ) := by
      refine b226 (Or.inl ⟨_, _, kk1, hD1.1, Or.inl ⟨_, _, kk2, hr2, Or.inl ⟨_, _, kk3, hr3, _, _, e6, Or.inr ⟨_, _, b241 ⟨_, _, d42 hD1, ?_⟩, rfl⟩⟩⟩⟩)
      rw [if_pos g7]
    have hB : Dd 389 [vA 682, vI a1, vI a2, vI a3] σ (rI 0 (upS σ 682 0 2)) := by
      refine m0 rfl (b389_27 ?_)
      rw [if_neg (show ¬ (1 : Int) = 0 by decide)]
      refine ⟨_, _, e384, k2, ?_⟩
      rw [show a2.toNat = t2 by omega, if_pos (by omega)]
      refine b389_58 ⟨_, _, d245, ?_⟩
      rw [if_neg (show ¬ (2 : Int) = 0 by decide), if_pos rfl]
    exact op_x H (by decide) (b442 (Or.inr (Or.inr ⟨_, hA, rfl⟩))) hB
  have hge := (rS_ge (f := σ (660 + 2 * t1 + 1)) n 0 0).2
  have hff : ∀ k, k < n → 0 ≤ σ (660 + 2 * t1 + 1) k ∧ σ (660 + 2 * t1 + 1) k ≤ 1000 ∧ (σ (660 + 2 * t1 + 1) k < 500 → σ (660 + 2 * t1 + 1) k < m) := by
    intro k hk
    have := hge k (by omega) (by omega)
    rcases cd1 k hk with ⟨z1, z2, z3⟩ | ⟨z1, z2, z3⟩
    · exact ⟨by omega, by omega, fun z => by have := this z; omega⟩
    · exact ⟨by omega, by omega, fun z => by omega⟩
  have off0 : ∀ c k, ¬ c = 680 → upS σ 680 1 0 c k = σ c k := fun c k h => up_a h
  obtain ⟨s1, c1, c2, c4, c5⟩ := l44 (f := σ (660 + 2 * t1 + 1)) (g := σ (11 + 2 * t2 + 1)) hD1.1 hr2 hr3 (by omega) ⟨hD1.2.2.2.1, hD1.2.1⟩ (m := m) ⟨by omega, by omega⟩ (by omega) hff n 0 (upS σ 680 1 0) [] none (by omega) (by rw [off0 _ _ (by omega)]; exact hD1.2.2.1) (by rw [off0 _ _ (by omega)]; exact hmm) (fun i _ => off0 _ _ (by omega)) (fun i _ => off0 _ _ (by omega)) Rw_nil rfl
  have hlen : ([] ++ (List.range' 0 n).map (ptb (σ (660 + 2 * t1 + 1)) (σ (11 + 2 * t2 + 1)))).length = n := by simp
  have es1 : s1 (11 + 2 * t3) 1 = (n : Nat) := by rw [c2.1, hlen]
  have hA : Dd 226 [vA 0, vI a1, vI a2, vI a3] σ (rI (n : Nat) s1) := by
    have e9 := d146 (σ := s1) hr3
    rw [es1] at e9
    exact b226 (Or.inl ⟨_, _, kk1, hD1.1, Or.inl ⟨_, _, kk2, hr2, Or.inl ⟨_, _, kk3, hr3, _, _, e6, Or.inl ⟨_, b241 ⟨_, _, d42 hD1, by rw [if_neg g7]⟩, _, b44 ⟨_, d152 cp680.1, c1⟩, _, _, e9, rfl⟩⟩⟩⟩)
  have hW := b442 (Or.inl ⟨_, _, hA, rfl⟩)
  have ff : ∀ c k, ¬ c = 11 + 2 * t3 → ¬ c = 11 + 2 * t3 + 1 → ¬ c = 680 → ¬ c = 681 → ¬ c = 726 → upS s1 726 0 (n : Nat) c k = σ c k := fun c k h1 h2 h4 h5 h6 => by rw [up_a h6, c4 c k h1 h2 h4 h5, off0 _ _ h4]
  have f2 : ∀ c k, ¬ c = 11 + 2 * t3 → ¬ c = 11 + 2 * t3 + 1 → ¬ c = 680 → ¬ c = 681 → ¬ c = 726 → ¬ (c = 682 ∧ k = 0) → upS (upS s1 726 0 (n : Nat)) 682 0 0 c k = σ c k := by
    intro c k h1 h2 h4 h5 h6 h7
    have : upS (upS s1 726 0 (n : Nat)) 682 0 0 c k = upS s1 726 0 (n : Nat) c k := by
      unfold upS
      rw [if_neg (by omega)]
    rw [this, ff c k h1 h2 h4 h5 h6]
  obtain ⟨s2, m1, m2, m3, m6⟩ := l389 (d := t1) (b := t2) (t := t3) (n := n) (G := fun i => (if σ 725 (40 * t1 + i) < 1000 then σ 722 (40 * t2 + (σ 725 (40 * t1 + i)).toNat) else σ 725 (40 * t1 + i) - 1000)) (by omega) (by omega) (by omega) n40 (d4 := some (vI 1)) n 0 (upS (upS s1 726 0 (n : Nat)) 682 0 0) none (by omega) (by rw [f2 _ _ (by omega) (by omega) (by decide) (by decide) (by decide) (by decide)]; exact e724) (fun i hi => by
    rw [f2 _ _ (by omega) (by omega) (by decide) (by decide) (by decide) (by decide)]
    rcases cd1 i hi with ⟨z1, z2, z3⟩ | ⟨z1, z2, z3⟩ <;> omega) (fun i hi => by
    rw [f2 725 (40 * t1 + i) (by omega) (by omega) (by decide) (by decide) (by decide) (by decide), f2 722 (40 * t2 + _) (by omega) (by omega) (by decide) (by decide) (by decide) (by decide)]) (fun i hi => by omega)
  rw [← ht1, ← ht2, ← ht3] at m1
  have D1' : Dl (upS s1 726 0 (n : Nat)) (660 + 2 * t1) t1 n := Dl_fr (ff _ _ (by omega) (by omega) (by omega) (by omega) (by omega)) (fun k => ff _ _ (by omega) (by omega) (by omega) (by omega) (by omega)) (ff _ _ (by omega) (by omega) (by omega) (by omega) (by omega)) (fun k => ff _ _ (by omega) (by omega) (by omega) (by omega) (by omega)) hD1
  have er : upS s1 726 0 (n : Nat) (660 + 2 * t1 + 1) = σ (660 + 2 * t1 + 1) := funext (fun k => ff _ _ (by omega) (by omega) (by omega) (by omega) (by omega))
  have e384' := d384 D1'
  rw [← ht1, er] at e384'
  have hB : Dd 389 [vA 682, vI a1, vI a2, vI a3] (upS s1 726 0 (n : Nat)) (rI (n : Nat) s2) := by
    refine m0 (ff _ _ (by omega) (by omega) (by omega) (by omega) (by omega)) (b389_27 ?_)
    rw [if_neg (show ¬ (1 : Int) = 0 by decide)]
    refine ⟨_, _, e384', k2, ?_⟩
    rw [show a2.toNat = t2 by omega, ff 723 _ (by omega) (by omega) (by omega) (by omega) (by omega), if_neg (by omega)]
    refine b389_58 ⟨_, _, d245, ?_⟩
    rw [if_pos rfl, if_neg (show ¬ (1 : Int) = 0 by decide)]
    exact m1
  have hoff : ∀ c k, ¬ (c = 726 ∨ (c = 682 ∧ k = 0) ∨ c = 11 + 2 * t3 ∨ c = 11 + 2 * t3 + 1 ∨ c = 680 ∨ c = 681 ∨ c = 705 ∨ (c = 723 ∧ k = t3) ∨ (c = 722 ∧ 40 * t3 ≤ k ∧ k < 40 * t3 + n)) → s2 c k = σ c k := by
    intro c k hc
    rw [m6 c k (by omega) (by omega) (by omega), f2 _ _ (by omega) (by omega) (by omega) (by omega) (by omega) (by omega)]
  have hcl : ∀ c k, c < 682 → s2 c k = s1 c k := by
    intro c k hc
    rw [m6 c k (by omega) (by omega) (by omega), up_a (by omega), up_a (by omega)]
  obtain ⟨h1, h2, h3, h4, h5, h6, h7, h8, h9⟩ := H
  refine op_fin hW hB ?_ (fun _ => ?_) (fun a k ha => by rw [up_a (by omega), c4 _ _ (by omega) (by omega) (by omega) (by omega), off0 _ _ (by omega)]) (fun a k ha => hoff _ _ (by omega)) ⟨fun a ha => ?_, Zl_fr (fun k => hoff _ _ (by omega)) h2, RT_fr (fun c k hc => hoff _ _ (by omega)) h3, ?_, RP_fr (fun c k hc => hoff _ _ (by omega)) h5, RSt_fr (by omega) (fun c k hc => hoff _ _ (by omega)) h6, RU_fr (fun c k hc => hoff _ _ (by omega)) h7, RF_fr (fun c k hc => hoff _ _ (by omega)) h8, RD_fr (fun c k hc => hoff _ _ (by omega)) h9⟩
  · rw [m6 _ _ (by decide) (by omega) (by omega), up_s]
  · rw [m6 _ _ (by decide) (by omega) (by omega), up_a (by decide), up_s]
  · have hlt := row_lt ha
    have n2 : ¬ a = 681 := by intro e; subst e; exact absurd ha (by decide +kernel)
    by_cases e1 : a = 11 + 2 * t3
    · rw [e1, hcl _ _ (by omega), es1]; omega
    · by_cases e2 : a = 680
      · rw [e2, cp680.2, hcl _ _ (by omega)]; exact c5
      · have n3 := row_nx hr3 ha
        rw [hoff _ _ (by omega)]
        exact h1 a ha
  · intro t ht
    obtain ⟨u1, u2⟩ := h4 t ht
    by_cases e : t = t3
    · subst e
      have hval : ∀ i, i < n → s2 (11 + 2 * t + 1) i = ptb (σ (660 + 2 * t1 + 1)) (σ (11 + 2 * t2 + 1)) i := by
        intro i hi
        rw [hcl _ _ (by omega)]
        apply c2.2 i
        rw [List.nil_append, List.getElem?_map, List.getElem?_range' hi]
        simp
      have esz : s2 (11 + 2 * t) 1 = (n : Nat) := by rw [hcl _ _ (by omega)]; exact es1
      refine ⟨⟨by rw [esz, m3], fun i hi => ?_⟩, fun i hi => ?_⟩
      · rw [m3] at hi
        have hi : i < n := by omega
        rw [hval i hi, m2 i hi]
        show _ = (if σ 725 (40 * t1 + i) < 1000 then σ 722 (40 * t2 + (σ 725 (40 * t1 + i)).toNat) else σ 725 (40 * t1 + i) - 1000)
        have hq := hff i hi
        unfold ptb
        rcases cd1 i hi with ⟨z1, z2, z3⟩ | ⟨z1, z2, z3⟩
        · have := hq.2.2 (by omega)
          rw [if_pos (by omega), if_pos (by omega), z3]
          exact hb1.2 _ (by omega)
        · rw [if_neg (by omega), if_neg (by omega), z3]
          omega
      · rw [esz] at hi
        have hi : i < n := by omega
        rw [hval i hi]
        have hq := hff i hi
        unfold ptb
        rcases cd1 i hi with ⟨z1, z2, z3⟩ | ⟨z1, z2, z3⟩
        · have := hq.2.2 (by omega)
          rw [if_pos (by omega)]
          exact hb2 _ (by omega)
        · rw [if_neg (by omega)]
          omega
    · have w := h1 _ (el_10 (i := (t : Int)) (by omega)).2
      have wc := cp_10 (i := (t : Int)) (by omega)
      rw [show ((t : Int)).toNat = t by omega] at w wc
      have u11 := u1.1
      refine ⟨⟨by rw [hoff _ _ (by omega), hoff _ _ (by omega)]; exact u1.1, fun i hi => ?_⟩, fun i hi => ?_⟩
      · rw [hoff 723 _ (by omega)] at hi
        rw [hoff (11 + 2 * t + 1) i (by omega), hoff 722 _ (by omega)]
        exact u1.2 i hi
      · rw [hoff _ _ (by omega)] at hi
        rw [hoff _ _ (by omega)]
        exact u2 i hi
end
-- DRAFT 68.bytes6.lean
/-! delta: how a second row comes of a first one. -/
noncomputable section
def mL (f g : Nat → Int) (n1 n2 : Nat) : Nat → Nat → Nat → Nat
  | 0, _, _ => 0
  | w + 1, p, h => if p < n1 ∧ h < n2 ∧ f p = g h then 1 + mL f g n1 n2 w (p + 1) (h + 1) else 0
def mT (f g : Nat → Int) (n1 n2 p h : Nat) : Nat := mL f g n1 n2 (n2 - h) p h
theorem mL_le {f g : Nat → Int} {n1 n2 : Nat} : ∀ (w p h : Nat), mL f g n1 n2 w p h ≤ w ∧ (p ≤ n1 → p + mL f g n1 n2 w p h ≤ n1) := by
  intro w
  induction w with
  | zero => intro p h; unfold mL; exact ⟨Nat.le_refl _, fun h => by omega⟩
  | succ w ih =>
    intro p h
    unfold mL
    obtain ⟨g1, g2⟩ := ih (p + 1) (h + 1)
    by_cases z : p < n1 ∧ h < n2 ∧ f p = g h
    · rw [if_pos z]
      refine ⟨by omega, fun _ => ?_⟩
      have := g2 (by omega)
      omega
    · rw [if_neg z]
      exact ⟨by omega, fun h => by omega⟩
theorem mT_step {f g : Nat → Int} {n1 n2 p h : Nat} : mT f g n1 n2 p h = if p < n1 ∧ h < n2 ∧ f p = g h then 1 + mT f g n1 n2 (p + 1) (h + 1) else 0 := by
  unfold mT
  by_cases z : h < n2
  · rw [show n2 - h = (n2 - (h + 1)) + 1 by omega]
    rfl
  · rw [show n2 - h = 0 by omega, if_neg (fun e => z e.2.1)]
    rfl
theorem l40 {a b n1 n2 p h : Nat} {σ : Sg} {f g : Nat → Int} (ha : isRow a = true) (hb : isRow b = true) (hA : σ a 1 = (n1 : Nat)) (hB : σ b 1 = (n2 : Nat)) (hn1 : n1 ≤ cap a ∧ n1 ≤ 5000) (hn2 : n2 ≤ cap b ∧ n2 ≤ 5000) (hf : ∀ k, k < n1 → σ (a + 1) k = f k) (hg : ∀ k, k < n2 → σ (b + 1) k = g k) (hp : p ≤ n1) (hh : h ≤ n2) {mo : Nat} (hm : mo = min (n1 - p) (n2 - h)) : ∀ (w j : Nat), j + w = mo → C40_20 a p b h mo j σ (rI ((j + mT f g n1 n2 (p + j) (h + j) : Nat) : Int) σ) := by
  have wa : wR σ a := ⟨ha, by omega, by omega⟩
  have wb : wR σ b := ⟨hb, by omega, by omega⟩
  intro w
  induction w with
  | zero =>
    intro j q
    refine b40_20 ha hb ?_
    rw [if_neg (by omega), mT_step, if_neg (by omega)]
    rfl
  | succ w ih =>
    intro j q
    refine b40_20 ha hb ?_
    have d1 := d147 (i := ((p + j : Nat) : Int)) wa
    rw [at_in hA (by omega), hf _ (by omega)] at d1
    have d2 := d147 (i := ((h + j : Nat) : Int)) wb
    rw [at_in hB (by omega), hg _ (by omega)] at d2
    rw [if_pos (by omega), show (p : Int) + (j : Int) = ((p + j : Nat) : Int) by omega, show (h : Int) + (j : Int) = ((h + j : Nat) : Int) by omega]
    refine ⟨by omega, _, _, d1, by omega, _, _, d2, ?_⟩
    rw [mT_step]
    by_cases z : f (p + j) = g (h + j)
    · rw [if_pos z, if_pos ⟨by omega, by omega, z⟩]
      refine ⟨by omega, ?_⟩
      have e := ih (j + 1) (by omega)
      rw [show j + 1 + mT f g n1 n2 (p + (j + 1)) (h + (j + 1)) = j + (1 + mT f g n1 n2 (p + j + 1) (h + j + 1)) by
        rw [show p + (j + 1) = p + j + 1 by omega, show h + (j + 1) = h + j + 1 by omega]
        omega] at e
      rw [show (j : Int) + 1 = ((j + 1 : Nat) : Int) by omega]
      exact e
    · rw [if_neg z, if_neg (fun e => z e.2.2)]
      rfl
/-- Deltas.matchLength -/
theorem d40 {a b n1 n2 p h : Nat} {σ : Sg} {f g : Nat → Int} (ha : isRow a = true) (hb : isRow b = true) (hA : σ a 1 = (n1 : Nat)) (hB : σ b 1 = (n2 : Nat)) (hn1 : n1 ≤ cap a ∧ n1 ≤ 5000) (hn2 : n2 ≤ cap b ∧ n2 ≤ 5000) (hf : ∀ k, k < n1 → σ (a + 1) k = f k) (hg : ∀ k, k < n2 → σ (b + 1) k = g k) (hp : p ≤ n1) (hh : h ≤ n2) : Dd 40 [vA a, vI p, vA b, vI h] σ (rI (mT f g n1 n2 p h : Nat) σ) := by
  have e := l40 ha hb hA hB hn1 hn2 hf hg hp hh (mo := min (n1 - p) (n2 - h)) rfl _ 0 (Nat.zero_add _)
  have e1 := d146 (σ := σ) ha
  have e2 := d146 (σ := σ) hb
  rw [hA] at e1
  rw [hB] at e2
  refine b40 ha hb ⟨_, _, e1, by omega, _, _, e2, by omega, ?_⟩
  have hm : (if ((n2 : Nat) : Int) - (h : Int) < ((n1 : Nat) : Int) - (p : Int) then ((n2 : Nat) : Int) - (h : Int) else ((n1 : Nat) : Int) - (p : Int)) = ((min (n1 - p) (n2 - h) : Nat) : Int) := by
    split <;> omega
  rw [hm]
  rw [show 0 + mT f g n1 n2 (p + 0) (h + 0) = mT f g n1 n2 p h by rw [Nat.add_zero, Nat.add_zero, Nat.zero_add]] at e
  exact e
def bS (f g : Nat → Int) (n1 n2 h : Nat) : Nat → Nat → Nat × Nat → Nat × Nat
  | 0, _, r => r
  | w + 1, p, r => bS f g n1 n2 h w (p + 1) (if r.2 < mT f g n1 n2 p h then (p, mT f g n1 n2 p h) else r)
def bT (f g : Nat → Int) (n1 n2 h : Nat) : Nat × Nat := bS f g n1 n2 h n1 0 (0, 0)
theorem bS_inv {f g : Nat → Int} {n1 n2 h : Nat} : ∀ (w p : Nat) (r : Nat × Nat), p + w = n1 → r.2 = mT f g n1 n2 r.1 h → r.1 < n1 → (bS f g n1 n2 h w p r).2 = mT f g n1 n2 (bS f g n1 n2 h w p r).1 h ∧ (bS f g n1 n2 h w p r).1 < n1 := by
  intro w
  induction w with
  | zero => intro p r h1 h2 h3; unfold bS; exact ⟨h2, h3⟩
  | succ w ih =>
    intro p r h1 h2 h3
    unfold bS
    refine ih (p + 1) _ (by omega) ?_ ?_
    · split
      · rfl
      · exact h2
    · split
      · show p < n1
        omega
      · exact h3
theorem bT_m {f g : Nat → Int} {n1 n2 h : Nat} : (bT f g n1 n2 h).2 = mT f g n1 n2 (bT f g n1 n2 h).1 h ∧ (bT f g n1 n2 h).1 ≤ n1 := by
  unfold bT
  cases n1 with
  | zero =>
    unfold bS
    refine ⟨?_, Nat.le_refl _⟩
    show 0 = mT f g 0 n2 0 h
    rw [mT_step, if_neg (by omega)]
  | succ n =>
    unfold bS
    have e : (if (0, 0).2 < mT f g (n + 1) n2 0 h then (0, mT f g (n + 1) n2 0 h) else (0, 0)) = (0, mT f g (n + 1) n2 0 h) := by
      by_cases z : 0 < mT f g (n + 1) n2 0 h
      · exact if_pos z
      · rw [if_neg z, show mT f g (n + 1) n2 0 h = 0 by omega]
    rw [e]
    have g := bS_inv (f := f) (g := g) (n1 := n + 1) (n2 := n2) (h := h) n (0 + 1) (0, mT f g (n + 1) n2 0 h) (by omega) rfl (by show 0 < n + 1; omega)
    exact ⟨g.1, by omega⟩
theorem bT_le {f g : Nat → Int} {n1 n2 h : Nat} : (bT f g n1 n2 h).2 ≤ n2 - h ∧ (bT f g n1 n2 h).1 + (bT f g n1 n2 h).2 ≤ n1 := by
  obtain ⟨e1, e2⟩ := bT_m (f := f) (g := g) (n1 := n1) (n2 := n2) (h := h)
  have := mL_le (f := f) (g := g) (n1 := n1) (n2 := n2) (n2 - h) (bT f g n1 n2 h).1 h
  rw [e1]
  exact ⟨this.1, this.2 e2⟩
theorem l39 {a b n1 n2 h : Nat} {σ : Sg} {f g : Nat → Int} (ha : isRow a = true) (hb : isRow b = true) (hA : σ a 1 = (n1 : Nat)) (hB : σ b 1 = (n2 : Nat)) (hn1 : n1 ≤ cap a ∧ n1 ≤ 5000) (hn2 : n2 ≤ cap b ∧ n2 ≤ 5000) (hf : ∀ k, k < n1 → σ (a + 1) k = f k) (hg : ∀ k, k < n2 → σ (b + 1) k = g k) (hh : h ≤ n2) : ∀ (w p : Nat) (r : Nat × Nat) (d6 : Option AV), p + w = n1 → C39_8 a b h r.1 r.2 p d6 σ (rI ((bS f g n1 n2 h w p r).1 : Nat) σ) := by
  have e1 := d146 (σ := σ) ha
  rw [hA] at e1
  intro w
  induction w with
  | zero =>
    intro p r d6 q
    refine b39_8 ha ⟨_, _, e1, ?_⟩
    rw [if_neg (by omega)]
    rfl
  | succ w ih =>
    intro p r d6 q
    refine b39_8 ha ⟨_, _, e1, ?_⟩
    rw [if_pos (by omega)]
    refine ⟨_, _, d40 ha hb hA hB hn1 hn2 hf hg (by omega) hh, b39_41 ⟨by omega, ?_⟩⟩
    unfold bS
    have e := ih (p + 1) (if r.2 < mT f g n1 n2 p h then (p, mT f g n1 n2 p h) else r) (some (vI (mT f g n1 n2 p h : Nat))) (by omega)
    rw [show (p : Int) + 1 = ((p + 1 : Nat) : Int) by omega]
    by_cases z : r.2 < mT f g n1 n2 p h
    · rw [if_pos z] at e
      rw [if_pos (by omega), if_pos (by omega), if_pos z]
      exact e
    · rw [if_neg z] at e
      rw [if_neg (by omega), if_neg (by omega), if_neg z]
      exact e
theorem l38 {p m : Nat} (hp : p ≤ 100) (hm : m ≤ 40) : ∀ (w i : Nat) (σ : Sg) (l : List Int), i + w = m → Rw σ 680 l → l.length + w ≤ 40 → ∃ s, C38_2 p m i σ (rV s) ∧ Rw s 680 (l ++ (List.range' i w).map (fun k => ((p + k : Nat) : Int))) ∧ ∀ c k, ¬ c = 680 → ¬ c = 681 → s c k = σ c k := by
  intro w
  induction w with
  | zero =>
    intro i σ l q1 q2 q3
    refine ⟨σ, b38_2 ?_, by simpa using q2, fun _ _ _ _ => rfl⟩
    rw [if_neg (by omega)]
  | succ w ih =>
    intro i σ l q1 q2 q3
    obtain ⟨s, g1, g2, g3⟩ := ih (i + 1) (adS σ 680 ((p + i : Nat) : Int)) (l ++ [((p + i : Nat) : Int)]) (by omega) (Rw_ad q2 (by rw [cp680.2]; omega)) (by simp only [List.length_append, List.length_cons, List.length_nil]; omega)
    refine ⟨s, b38_2 ?_, ?_, fun c k h1 h2 => by rw [g3 c k h1 h2, ad_off h1 h2]⟩
    · rw [if_pos (by omega), show (p : Int) + (i : Int) = ((p + i : Nat) : Int) by omega]
      refine ⟨by omega, _, d149 (Rw_wR cp680.1 q2 (by rw [cp680.2]; omega)), by omega, ?_⟩
      rw [show (i : Int) + 1 = ((i + 1 : Nat) : Int) by omega]
      exact g1
    · rw [List.append_assoc] at g2
      rw [List.range'_succ, List.map_cons]
      exact g2
def cds (f g : Nat → Int) (n1 n2 : Nat) : Nat → Nat → List Int
  | 0, _ => []
  | w + 1, h => if h < n2 then (if 3 ≤ (bT f g n1 n2 h).2 then (List.range' 0 (bT f g n1 n2 h).2).map (fun k => (((bT f g n1 n2 h).1 + k : Nat) : Int)) ++ cds f g n1 n2 w (h + (bT f g n1 n2 h).2) else (500 + g h) :: cds f g n1 n2 w (h + 1)) else []
theorem cds_len {f g : Nat → Int} {n1 n2 : Nat} : ∀ (w h : Nat), n2 - h ≤ w → (cds f g n1 n2 w h).length = n2 - h := by
  intro w
  induction w with
  | zero => intro h q; unfold cds; show 0 = _; omega
  | succ w ih =>
    intro h q
    unfold cds
    by_cases z : h < n2
    · rw [if_pos z]
      have hb := (bT_le (f := f) (g := g) (n1 := n1) (n2 := n2) (h := h)).1
      by_cases y : 3 ≤ (bT f g n1 n2 h).2
      · rw [if_pos y, List.length_append, List.length_map, List.length_range', ih _ (by omega)]
        omega
      · rw [if_neg y, List.length_cons, ih _ (by omega)]
        omega
    · rw [if_neg z]
      show 0 = _
      omega
theorem cds_ok {f g : Nat → Int} {n1 n2 : Nat} (h1 : n1 ≤ 40) (hg : ∀ k, k < n2 → 0 ≤ g k ∧ g k ≤ 255) : ∀ (w h : Nat), ∀ v ∈ cds f g n1 n2 w h, (0 ≤ v ∧ v < 40) ∨ (500 ≤ v ∧ v ≤ 755) := by
  intro w
  induction w with
  | zero => intro h v hv; unfold cds at hv; simp at hv
  | succ w ih =>
    intro h v hv
    unfold cds at hv
    by_cases z : h < n2
    · rw [if_pos z] at hv
      have hb := (bT_le (f := f) (g := g) (n1 := n1) (n2 := n2) (h := h)).2
      by_cases y : 3 ≤ (bT f g n1 n2 h).2
      · rw [if_pos y] at hv
        rcases List.mem_append.mp hv with q | q
        · obtain ⟨k, hk, rfl⟩ := List.mem_map.mp q
          have := List.mem_range'_1.mp hk
          left
          omega
        · exact ih _ v q
      · rw [if_neg y] at hv
        rcases List.mem_cons.mp hv with q | q
        · have := hg h z
          right
          omega
        · exact ih _ v q
    · rw [if_neg z] at hv
      simp at hv
/-- Deltas.find, from a place on -/
theorem l36 {a b n1 n2 : Nat} {f g : Nat → Int} (ha : isRow a = true) (hb : isRow b = true) (hab : a < 679 ∧ b < 679) (hn1 : n1 ≤ cap a ∧ n1 ≤ 40) (hn2 : n2 ≤ cap b ∧ n2 ≤ 40) (hg9 : ∀ k, k < n2 → 0 ≤ g k ∧ g k ≤ 255) {D : Nat} (h10 : D < 10) : ∀ (w h : Nat) (σ : Sg) (l : List Int) (d4 d5 : Option AV), n2 - h ≤ w → h ≤ n2 → σ a 1 = (n1 : Nat) → σ b 1 = (n2 : Nat) → (∀ k, k < n1 → σ (a + 1) k = f k) → (∀ k, k < n2 → σ (b + 1) k = g k) → σ 658 1 = (D : Nat) → Rw σ 680 l → l.length = h → ∃ s, C36_9 a b h d4 d5 σ (rI D s) ∧ Rw s (660 + 2 * D) (l ++ cds f g n1 n2 w h) ∧ s 658 1 = (D : Int) + 1 ∧ (∀ c j, ¬ c = 660 + 2 * D → ¬ c = 660 + 2 * D + 1 → ¬ c = 658 → ¬ c = 680 → ¬ c = 681 → s c j = σ c j) ∧ 0 ≤ s 680 1 ∧ s 680 1 ≤ 40 := by
  intro w
  have stop : ∀ (w h : Nat) (σ : Sg) (l : List Int) (d4 d5 : Option AV), h = n2 → σ b 1 = (n2 : Nat) → σ 658 1 = (D : Nat) → Rw σ 680 l → l.length = h → ∃ s, C36_9 a b h d4 d5 σ (rI D s) ∧ Rw s (660 + 2 * D) (l ++ cds f g n1 n2 w h) ∧ s 658 1 = (D : Int) + 1 ∧ (∀ c j, ¬ c = 660 + 2 * D → ¬ c = 660 + 2 * D + 1 → ¬ c = 658 → ¬ c = 680 → ¬ c = 681 → s c j = σ c j) ∧ 0 ≤ s 680 1 ∧ s 680 1 ≤ 40 := by
    intro w h σ l d4 d5 q1 q2 q6 q7 q8
    obtain ⟨s, g1, g2, g3, g4⟩ := d37 q6 h10 q7 (by omega)
    have hc : cds f g n1 n2 w h = [] := by
      cases w with
      | zero => rfl
      | succ w => unfold cds; rw [if_neg (by omega)]
    refine ⟨s, b36_9 hb ⟨_, _, d146 hb, ?_⟩, by rw [hc, List.append_nil]; exact g2, g3, fun c j h1 h2 h3 _ _ => g4 c j h1 h2 h3, by rw [g4 680 1 (by omega) (by omega) (by omega), q7.1]; omega, by rw [g4 680 1 (by omega) (by omega) (by omega), q7.1]; omega⟩
    rw [if_neg (by omega)]
    exact ⟨_, _, g1, rfl⟩
  induction w with
  | zero =>
    intro h σ l d4 d5 q0 q1 q2 q3 q4 q5 q6 q7 q8
    exact stop 0 h σ l d4 d5 (by omega) q3 q6 q7 q8
  | succ w ih =>
    intro h σ l d4 d5 q0 q1 q2 q3 q4 q5 q6 q7 q8
    by_cases hlt : h < n2
    · have e39 := l39 ha hb q2 q3 ⟨hn1.1, by omega⟩ ⟨hn2.1, by omega⟩ q4 q5 q1 n1 0 (0, 0) none (by omega)
      have e39 : Dd 39 [vA a, vA b, vI h] σ (rI ((bT f g n1 n2 h).1 : Nat) σ) := b39 e39
      have hbm := bT_m (f := f) (g := g) (n1 := n1) (n2 := n2) (h := h)
      have hbl := bT_le (f := f) (g := g) (n1 := n1) (n2 := n2) (h := h)
      have e40 := d40 ha hb q2 q3 ⟨hn1.1, by omega⟩ ⟨hn2.1, by omega⟩ q4 q5 hbm.2 q1
      rw [← hbm.1] at e40
      have wb : wR σ b := ⟨hb, by omega, by omega⟩
      unfold cds
      rw [if_pos hlt]
      generalize hP : (bT f g n1 n2 h).1 = P at e39 e40 hbl ⊢
      generalize hM : (bT f g n1 n2 h).2 = M at e40 hbl ⊢
      by_cases y : 3 ≤ M
      · rw [if_pos y]
        obtain ⟨s0, k1, k2, k3⟩ := l38 (p := P) (m := M) (by omega) (by omega) M 0 σ l (by omega) q7 (by omega)
        obtain ⟨s, g1, g2, g3, g4, g5⟩ := ih (h + M) s0 (l ++ (List.range' 0 M).map (fun k => ((P + k : Nat) : Int))) (some (vI (P : Nat))) (some (vI (M : Nat))) (by omega) (by omega) (by rw [k3 _ _ (by omega) (by omega)]; exact q2) (by rw [k3 _ _ (by omega) (by omega)]; exact q3) (fun k hk => by rw [k3 _ _ (by omega) (by omega)]; exact q4 k hk) (fun k hk => by rw [k3 _ _ (by omega) (by omega)]; exact q5 k hk) (by rw [k3 _ _ (by omega) (by omega)]; exact q6) k2 (by rw [List.length_append, List.length_map, List.length_range', q8])
        refine ⟨s, b36_9 hb ⟨_, _, d146 hb, ?_⟩, by rw [List.append_assoc] at g2; exact g2, g3, fun c j h1 h2 h3 h4 h5 => by rw [g4 c j h1 h2 h3 h4 h5, k3 _ _ h4 h5], g5⟩
        rw [if_pos (by omega)]
        refine ⟨_, _, e39, _, _, e40, ?_⟩
        rw [if_pos (by omega)]
        refine ⟨_, b38 k1, by omega, b36_76 ?_⟩
        rw [show (h : Int) + ((M : Nat) : Int) = ((h + M : Nat) : Int) by omega]
        exact g1
      · rw [if_neg y]
        have hd := d147 (i := (h : Int)) wb
        rw [at_in q3 hlt, q5 _ hlt] at hd
        have hgh := hg9 h hlt
        obtain ⟨s, g1, g2, g3, g4, g5⟩ := ih (h + 1) (adS σ 680 (500 + g h)) (l ++ [500 + g h]) (some (vI (P : Nat))) (some (vI (M : Nat))) (by omega) (by omega) (by rw [ad_off (by omega) (by omega)]; exact q2) (by rw [ad_off (by omega) (by omega)]; exact q3) (fun k hk => by rw [ad_off (by omega) (by omega)]; exact q4 k hk) (fun k hk => by rw [ad_off (by omega) (by omega)]; exact q5 k hk) (by rw [ad_off (by omega) (by omega)]; exact q6) (Rw_ad q7 (by rw [cp680.2]; omega)) (by rw [List.length_append, q8]; rfl)
        refine ⟨s, b36_9 hb ⟨_, _, d146 hb, ?_⟩, by rw [List.append_assoc] at g2; exact g2, g3, fun c j h1 h2 h3 h4 h5 => by rw [g4 c j h1 h2 h3 h4 h5, ad_off h4 h5], g5⟩
        rw [if_pos (by omega)]
        refine ⟨_, _, e39, _, _, e40, ?_⟩
        rw [if_neg (by omega)]
        refine ⟨_, _, hd, by omega, _, d149 (Rw_wR cp680.1 q7 (by rw [cp680.2]; omega)), by omega, b36_76 ?_⟩
        rw [show (h : Int) + 1 = ((h + 1 : Nat) : Int) by omega]
        exact g1
    · exact stop (w + 1) h σ l d4 d5 (by omega) q3 q6 q7 q8
end
-- DRAFT 69.bytes7.lean
/-! delta: the model's side, and the call. -/
noncomputable section
theorem d381 {r t n1 n2 p h : Nat} {σ : Sg} {f g : Nat → Int} (hr : r < 4) (ht : t < 4) (hA : σ 723 r = (n1 : Nat)) (hB : σ 723 t = (n2 : Nat)) (hn1 : n1 ≤ 40) (hn2 : n2 ≤ 40) (hf : ∀ k, k < n1 → σ 722 (40 * r + k) = f k) (hg : ∀ k, k < n2 → σ 722 (40 * t + k) = g k) (hp : p ≤ 40) (hh : h ≤ n2) : Dd 381 [vA 682, vI r, vI p, vI t, vI h] σ (rI (mT f g n1 n2 p h : Nat) σ) := by
  have l : ∀ (w j : Nat), h + j + w = n2 → p + j ≤ 80 → C381_3 r p t h j σ (rI ((j + mT f g n1 n2 (p + j) (h + j) : Nat) : Int) σ) := by
    intro w
    induction w with
    | zero =>
      intro j q q2
      refine b381_3 ⟨by omega, by omega, ?_⟩
      rw [mT_step, if_neg (show ¬ (p + j < n1 ∧ h + j < n2 ∧ f (p + j) = g (h + j)) by omega), show ((r : Int)).toNat = r by omega, show ((t : Int)).toNat = t by omega]
      by_cases z : (p : Int) + (j : Int) < σ 723 r
      · rw [if_pos z]
        refine ⟨by omega, by omega, ?_⟩
        rw [if_neg (by omega)]
        rfl
      · rw [if_neg z]
        rfl
    | succ w ih =>
      intro j q q2
      refine b381_3 ⟨by omega, by omega, ?_⟩
      rw [mT_step, show ((r : Int)).toNat = r by omega, show ((t : Int)).toNat = t by omega]
      by_cases z : (p : Int) + (j : Int) < σ 723 r
      · rw [if_pos z]
        refine ⟨by omega, by omega, ?_⟩
        rw [if_pos (by omega), show (40 * (r : Int) + (p : Int) + (j : Int)).toNat = 40 * r + (p + j) by omega, show (40 * (t : Int) + (h : Int) + (j : Int)).toNat = 40 * t + (h + j) by omega, hf _ (by omega), hg _ (by omega)]
        refine ⟨by omega, by omega, by omega, by omega, by omega, by omega, by omega, by omega, ?_⟩
        by_cases y : f (p + j) = g (h + j)
        · rw [if_pos y, if_pos ⟨by omega, by omega, y⟩]
          refine ⟨by omega, ?_⟩
          have e := ih (j + 1) (by omega) (by omega)
          rw [show j + 1 + mT f g n1 n2 (p + (j + 1)) (h + (j + 1)) = j + (1 + mT f g n1 n2 (p + j + 1) (h + j + 1)) by
            rw [show p + (j + 1) = p + j + 1 by omega, show h + (j + 1) = h + j + 1 by omega]
            omega] at e
          rw [show (j : Int) + 1 = ((j + 1 : Nat) : Int) by omega]
          exact e
        · rw [if_neg y, if_neg (fun e => y e.2.2)]
          rfl
      · rw [if_neg z, if_neg (by omega)]
        rfl
  have e := l (n2 - h) 0 (by omega) (by omega)
  rw [show 0 + mT f g n1 n2 (p + 0) (h + 0) = mT f g n1 n2 p h by rw [Nat.add_zero, Nat.add_zero, Nat.zero_add]] at e
  exact b381 e
/-- the model's search for the longest -/
theorem l382a {r t n1 n2 h : Nat} {σ : Sg} {f g : Nat → Int} (hr : r < 4) (ht : t < 4) (hA : σ 723 r = (n1 : Nat)) (hB : σ 723 t = (n2 : Nat)) (hn1 : n1 ≤ 40) (hn2 : n2 ≤ 40) (hf : ∀ k, k < n1 → σ 722 (40 * r + k) = f k) (hg : ∀ k, k < n2 → σ 722 (40 * t + k) = g k) (hh : h ≤ n2) {o : Rs} : ∀ (w p : Nat) (q : Nat × Nat) (d7 : Option AV), p + w = n1 → (∀ d7, C382_125 r t h ((bS f g n1 n2 h w p q).2 : Nat) ((bS f g n1 n2 h w p q).1 : Nat) 0 d7 σ o) → C382_62 r t h (q.2 : Nat) (q.1 : Nat) p d7 σ o := by
  intro w
  induction w with
  | zero =>
    intro p q d7 h1 H
    refine b382_62 ⟨by omega, ?_⟩
    rw [show ((r : Int)).toNat = r by omega, if_neg (by omega)]
    exact H _
  | succ w ih =>
    intro p q d7 h1 H
    refine b382_62 ⟨by omega, ?_⟩
    rw [show ((r : Int)).toNat = r by omega, if_pos (by omega)]
    refine ⟨_, _, d381 hr ht hA hB hn1 hn2 hf hg (by omega) hh, b382_98 (b382_114 ⟨by omega, ?_⟩)⟩
    have e := ih (p + 1) (if q.2 < mT f g n1 n2 p h then (p, mT f g n1 n2 p h) else q) (some (vI (mT f g n1 n2 p h : Nat))) (by omega) H
    rw [show (p : Int) + 1 = ((p + 1 : Nat) : Int) by omega]
    by_cases z : q.2 < mT f g n1 n2 p h
    · rw [if_pos z] at e
      rw [if_pos (by omega), if_pos (by omega)]
      exact e
    · rw [if_neg z] at e
      rw [if_neg (by omega), if_neg (by omega)]
      exact e
/-- the model notes a copy -/
theorem l382b {r t n2 h D M P : Nat} {o : Rs} (hM : 3 ≤ M) (hhM : h + M ≤ n2) (hn2 : n2 ≤ 40) (hP : P ≤ 40) (h10 : D < 10) : ∀ (w i : Nat) (σ : Sg) (d7 : Option AV), i + w = M → σ 682 58 = (D : Nat) → (∀ d5 d6 d7, C382_166 r t h M d5 d6 d7 (fun c k => if c = 725 ∧ 40 * D + h + i ≤ k ∧ k < 40 * D + h + M then ((P + (k - (40 * D + h)) : Nat) : Int) else σ c k) o) → C382_125 r t h M P i d7 σ o := by
  intro w
  induction w with
  | zero =>
    intro i σ d7 q1 q2 H
    refine b382_125 ?_
    rw [if_neg (by omega)]
    have e : (fun c k => if c = 725 ∧ 40 * D + h + i ≤ k ∧ k < 40 * D + h + M then ((P + (k - (40 * D + h)) : Nat) : Int) else σ c k) = σ := by
      funext c k
      rw [if_neg (by omega)]
    rw [e] at H
    exact H _ _ _
  | succ w ih =>
    intro i σ d7 q1 q2 H
    refine b382_125 ?_
    rw [if_pos (by omega), if_pos (by omega), q2]
    refine ⟨by omega, by omega, by omega, by omega, by omega, by omega, ?_⟩
    rw [show (40 * ((D : Nat) : Int) + (h : Int) + (i : Int)).toNat = 40 * D + h + i by omega, show ((P : Nat) : Int) + (i : Int) = ((P + i : Nat) : Int) by omega, show (i : Int) + 1 = ((i + 1 : Nat) : Int) by omega]
    refine ih (i + 1) _ d7 (by omega) (by rw [up_a (by decide)]; exact q2) ?_
    have e : (fun c k => if c = 725 ∧ 40 * D + h + (i + 1) ≤ k ∧ k < 40 * D + h + M then ((P + (k - (40 * D + h)) : Nat) : Int) else upS σ 725 (40 * D + h + i) ((P + i : Nat) : Int) c k) = (fun c k => if c = 725 ∧ 40 * D + h + i ≤ k ∧ k < 40 * D + h + M then ((P + (k - (40 * D + h)) : Nat) : Int) else σ c k) := by
      funext c k
      by_cases z : c = 725 ∧ k = 40 * D + h + i
      · rw [if_neg (by omega), if_pos (by omega), z.1, z.2, up_s]
        congr 2
        omega
      · have : upS σ 725 (40 * D + h + i) ((P + i : Nat) : Int) c k = σ c k := by
          unfold upS
          rw [if_neg z]
        rw [this]
        by_cases y : c = 725 ∧ 40 * D + h + (i + 1) ≤ k ∧ k < 40 * D + h + M
        · rw [if_pos y, if_pos (by omega)]
        · rw [if_neg y, if_neg (by omega)]
    rw [e]
    exact H
def enc (v : Int) : Int := if v < 500 then v else v + 500
theorem l382 {r t n1 n2 D : Nat} {f g : Nat → Int} (hr : r < 4) (ht : t < 4) (hn1 : n1 ≤ 40) (hn2 : n2 ≤ 40) (hg9 : ∀ k, k < n2 → 0 ≤ g k ∧ g k ≤ 255) (h10 : D < 10) : ∀ (w h : Nat) (σ : Sg), n2 - h ≤ w → h ≤ n2 → σ 723 r = (n1 : Nat) → σ 723 t = (n2 : Nat) → (∀ k, k < n1 → σ 722 (40 * r + k) = f k) → (∀ k, k < n2 → σ 722 (40 * t + k) = g k) → σ 682 58 = (D : Nat) → ∃ s, (∀ d4 d5 d6 d7, C382_43 r t h d4 d5 d6 d7 σ (rI D s)) ∧ (∀ i v, (cds f g n1 n2 w h)[i]? = some v → s 725 (40 * D + h + i) = enc v) ∧ (∀ i, i < 40 * D + h → s 725 i = σ 725 i) ∧ s 724 D = (n2 : Nat) ∧ s 682 58 = (D : Int) + 1 ∧ ∀ c j, ¬ c = 725 → ¬ (c = 724 ∧ j = D) → ¬ (c = 682 ∧ j = 58) → s c j = σ c j := by
  intro w
  have stop : ∀ (w h : Nat) (σ : Sg), h = n2 → σ 723 t = (n2 : Nat) → σ 682 58 = (D : Nat) → ∃ s, (∀ d4 d5 d6 d7, C382_43 r t h d4 d5 d6 d7 σ (rI D s)) ∧ (∀ i v, (cds f g n1 n2 w h)[i]? = some v → s 725 (40 * D + h + i) = enc v) ∧ (∀ i, i < 40 * D + h → s 725 i = σ 725 i) ∧ s 724 D = (n2 : Nat) ∧ s 682 58 = (D : Int) + 1 ∧ ∀ c j, ¬ c = 725 → ¬ (c = 724 ∧ j = D) → ¬ (c = 682 ∧ j = 58) → s c j = σ c j := by
    intro w h σ q1 q2 q3
    have hc : cds f g n1 n2 w h = [] := by
      cases w with
      | zero => rfl
      | succ w => unfold cds; rw [if_neg (by omega)]
    refine ⟨upS (upS σ 724 D (n2 : Nat)) 682 58 ((D : Int) + 1), fun d4 d5 d6 d7 => b382_43 ⟨by omega, ?_⟩, fun i v hv => by rw [hc] at hv; simp at hv, fun i _ => by rw [up_a (by decide), up_a (by decide)], by rw [up_a (by decide), up_s], up_s, fun c j h1 h2 h3 => ?_⟩
    · rw [show ((t : Int)).toNat = t by omega, q2, if_neg (by omega), q3, show ((D : Nat) : Int).toNat = D by omega, up_a (show ¬ 682 = 724 by decide), q3, up_s]
      refine ⟨by omega, by omega, by omega, by omega, ?_⟩
      rw [show ((D : Nat) : Int) + 1 - 1 = (D : Int) by omega]
    · unfold upS
      rw [if_neg (by omega), if_neg (by omega)]
  induction w with
  | zero =>
    intro h σ q0 q1 q2 q3 q4 q5 q6
    exact stop 0 h σ (by omega) q3 q6
  | succ w ih =>
    intro h σ q0 q1 q2 q3 q4 q5 q6
    by_cases hlt : h < n2
    · have hbl := bT_le (f := f) (g := g) (n1 := n1) (n2 := n2) (h := h)
      have key : ∀ {o : Rs} (d4 d5 d6 d7 : Option AV), (∀ d7, C382_125 r t h ((bT f g n1 n2 h).2 : Nat) ((bT f g n1 n2 h).1 : Nat) 0 d7 σ o) → C382_43 r t h d4 d5 d6 d7 σ o := by
        intro o d4 d5 d6 d7 hh
        refine b382_43 ⟨by omega, ?_⟩
        rw [show ((t : Int)).toNat = t by omega, if_pos (by omega)]
        exact l382a hr ht q2 q3 hn1 hn2 q4 q5 q1 n1 0 (0, 0) d7 (by omega) hh
      unfold cds
      rw [if_pos hlt]
      generalize hP : (bT f g n1 n2 h).1 = P at key hbl ⊢
      generalize hM : (bT f g n1 n2 h).2 = M at key hbl ⊢
      by_cases y : 3 ≤ M
      · rw [if_pos y]
        have hst : ∀ c k, ¬ c = 725 → (fun c k => if c = 725 ∧ 40 * D + h + 0 ≤ k ∧ k < 40 * D + h + M then ((P + (k - (40 * D + h)) : Nat) : Int) else σ c k : Sg) c k = σ c k := by
          intro c k hc
          show (if _ then _ else _) = _
          rw [if_neg (fun e => hc e.1)]
        have hin : ∀ k, k < M → (fun c k => if c = 725 ∧ 40 * D + h + 0 ≤ k ∧ k < 40 * D + h + M then ((P + (k - (40 * D + h)) : Nat) : Int) else σ c k : Sg) 725 (40 * D + h + k) = ((P + k : Nat) : Int) := by
          intro k hk
          show (if _ then _ else _) = _
          rw [if_pos ⟨rfl, by omega, by omega⟩]
          congr 2
          omega
        have hou : ∀ k, k < 40 * D + h → (fun c k => if c = 725 ∧ 40 * D + h + 0 ≤ k ∧ k < 40 * D + h + M then ((P + (k - (40 * D + h)) : Nat) : Int) else σ c k : Sg) 725 k = σ 725 k := by
          intro k hk
          show (if _ then _ else _) = _
          rw [if_neg (by omega)]
        have lb := fun (o : Rs) => l382b (r := r) (t := t) (n2 := n2) (h := h) (D := D) (M := M) (P := P) (o := o) y (by omega) hn2 (by omega) h10 M 0 σ
        generalize (fun c k => if c = 725 ∧ 40 * D + h + 0 ≤ k ∧ k < 40 * D + h + M then ((P + (k - (40 * D + h)) : Nat) : Int) else σ c k : Sg) = σ2 at hst hin hou lb
        obtain ⟨s, g1, g2, g3, g4, g5, g6⟩ := ih (h + M) σ2 (by omega) (by omega) (by rw [hst _ _ (by decide)]; exact q2) (by rw [hst _ _ (by decide)]; exact q3) (fun k hk => by rw [hst _ _ (by decide)]; exact q4 k hk) (fun k hk => by rw [hst _ _ (by decide)]; exact q5 k hk) (by rw [hst _ _ (by decide)]; exact q6)
        refine ⟨s, fun d4 d5 d6 d7 => key d4 d5 d6 d7 (fun d7 => lb _ d7 (by omega) q6 (fun d5 d6 d7 => b382_166 ?_)), fun i v hv => ?_, fun i hi => by rw [g3 i (by omega), hou i hi], g4, g5, fun c j h1 h2 h3 => by rw [g6 c j h1 h2 h3, hst c j h1]⟩
        · rw [if_neg (by omega)]
          refine b382_201 (b382_214 ?_)
          rw [if_neg (show ¬ ((M : Nat) : Int) < 3 by omega), show (h : Int) + ((M : Nat) : Int) = ((h + M : Nat) : Int) by omega]
          exact ⟨by omega, g1 _ _ _ _⟩
        · by_cases z : i < M
          · rw [List.getElem?_append_left (by rw [List.length_map, List.length_range']; exact z), List.getElem?_map, List.getElem?_range' z] at hv
            have hv : ((P + (0 + 1 * i) : Nat) : Int) = v := by simpa using hv
            rw [g3 _ (by omega), hin i z, ← hv]
            unfold enc
            rw [if_pos (by omega)]
            congr 1
            omega
          · rw [List.getElem?_append_right (by rw [List.length_map, List.length_range']; omega), List.length_map, List.length_range'] at hv
            have e := g2 _ v hv
            rw [show 40 * D + (h + M) + (i - M) = 40 * D + h + i by omega] at e
            exact e
      · rw [if_neg y]
        obtain ⟨s, g1, g2, g3, g4, g5, g6⟩ := ih (h + 1) (upS σ 725 (40 * D + h) (1000 + g h)) (by omega) (by omega) (by rw [up_a (by decide)]; exact q2) (by rw [up_a (by decide)]; exact q3) (fun k hk => by rw [up_a (by decide)]; exact q4 k hk) (fun k hk => by rw [up_a (by decide)]; exact q5 k hk) (by rw [up_a (by decide)]; exact q6)
        have hgh := hg9 h hlt
        refine ⟨s, fun d4 d5 d6 d7 => key d4 d5 d6 d7 (fun d7 => b382_125 ?_), fun i v hv => ?_, fun i hi => by rw [g3 i (by omega), up_k (by omega)], g4, g5, fun c j h1 h2 h3 => by rw [g6 c j h1 h2 h3, up_a h1]⟩
        · have go : ∀ d5 d6, C382_166 r t h (M : Nat) d5 d6 d7 σ (rI D s) := by
            intro d5 d6
            refine b382_166 ?_
            rw [if_pos (by omega), q6, show (40 * ((D : Nat) : Int) + (h : Int)).toNat = 40 * D + h by omega, show (40 * (t : Int) + (h : Int)).toNat = 40 * t + h by omega, q5 h hlt]
            refine ⟨by omega, by omega, by omega, by omega, by omega, by omega, by omega, b382_201 (b382_214 ?_)⟩
            rw [if_pos (show ((M : Nat) : Int) < 3 by omega), show (h : Int) + 1 = ((h + 1 : Nat) : Int) by omega]
            exact ⟨by omega, g1 _ _ _ _⟩
          by_cases z : (0 : Int) < ((M : Nat) : Int)
          · rw [if_pos z, if_neg (by omega)]
            exact go _ _
          · rw [if_neg z]
            exact go _ _
        · cases i with
          | zero =>
            have hv : 500 + g h = v := by simpa using hv
            rw [g3 _ (by omega), Nat.add_zero, up_s, ← hv]
            unfold enc
            rw [if_neg (by omega)]
            omega
          | succ i =>
            rw [List.getElem?_cons_succ] at hv
            have e := g2 _ v hv
            rw [show 40 * D + (h + 1) + i = 40 * D + h + (i + 1) by omega] at e
            exact e
    · exact stop (w + 1) h σ (by omega) q3 q6
theorem o50 {σ : Sg} {c a1 a2 : Int} (H : Rel c σ) : OpR 438 382 [vA 0, vI a1, vI a2, vA 726] [vA 682, vI a1, vI a2] σ (c + 1) := by
  by_cases g1 : a1 < 0
  · exact x50_0 H g1
  by_cases g2 : 4 ≤ a1
  · exact x50_1 H g2
  have k1 : 0 ≤ a1 ∧ a1 < 4 := by omega
  by_cases g3 : a2 < 0
  · exact x50_2 H k1 g3
  by_cases g4 : 4 ≤ a2
  · exact x50_3 H k1 g4
  have k2 : 0 ≤ a2 ∧ a2 < 4 := by omega
  have hn := (rel_n H).2.2.2.2
  obtain ⟨b1, b2, b3⟩ := rel_b H k1
  obtain ⟨d1, d2, d3⟩ := rel_b H k2
  obtain ⟨hb1, hb2⟩ := H.2.2.2.1 a1.toNat (by omega)
  obtain ⟨hd1, hd2⟩ := H.2.2.2.1 a2.toNat (by omega)
  have hr1 := (el_10 k1).2
  have hr2 := (el_10 k2).2
  have hc1 := cp_10 k1
  have hc2 := cp_10 k2
  obtain ⟨t1, ht1⟩ := Int.eq_ofNat_of_zero_le k1.1
  obtain ⟨t2, ht2⟩ := Int.eq_ofNat_of_zero_le k2.1
  have kk1 := d228_ok (σ := σ) k1
  have kk2 := d228_ok (σ := σ) k2
  rw [show a1.toNat = t1 by omega] at kk1 b1 b2 b3 hb1 hb2 hr1 hc1
  rw [show a2.toNat = t2 by omega] at kk2 d1 d2 d3 hd1 hd2 hr2 hc2
  obtain ⟨n1, hn1⟩ := Int.eq_ofNat_of_zero_le b2
  obtain ⟨n2, hn2⟩ := Int.eq_ofNat_of_zero_le d2
  have m0 : ∀ {σ' : Sg} {o : Rs}, C382_33 a1 a2 none none none none none (if (σ' 682 58) = 10 then 2 else 0) σ' o → Dd 382 [vA 682, vI a1, vI a2] σ' o := by
    intro σ' o hh
    refine b382 ⟨_, _, d377_ok k1, ?_⟩
    rw [if_neg (show ¬ (1 : Int) = 0 by decide)]
    refine ⟨_, _, d377_ok k2, ?_⟩
    rw [if_neg (show ¬ (1 : Int) = 0 by decide)]
    exact hh
  by_cases g6 : 10 ≤ σ 658 1
  · have hA : Dd 222 [vA 0, vI a1, vI a2] σ (rX 2 σ) := b222 (Or.inl ⟨_, _, kk1, hr1, Or.inl ⟨_, _, kk2, hr2, Or.inr ⟨_, _, b240 (by rw [if_pos g6]), rfl⟩⟩⟩)
    have hB : Dd 382 [vA 682, vI a1, vI a2] σ (rI 0 (upS σ 682 0 2)) := by
      refine m0 ?_
      rw [if_pos (by omega)]
      refine b382_33 ⟨_, _, d245, ?_⟩
      rw [if_neg (show ¬ (2 : Int) = 0 by decide), if_pos rfl]
    exact op_x H (by decide) (b438 (Or.inr (Or.inr ⟨_, hA, rfl⟩))) hB
  obtain ⟨D, hDD⟩ := Int.eq_ofNat_of_zero_le (show 0 ≤ σ 658 1 by omega)
  have hg9 : ∀ k, k < n2 → 0 ≤ σ (11 + 2 * t2 + 1) k ∧ σ (11 + 2 * t2 + 1) k ≤ 255 := fun k hk => hd2 k (by omega)
  have off0 : ∀ c k, ¬ c = 680 → upS σ 680 1 0 c k = σ c k := fun c k h => up_a h
  obtain ⟨s1, c1, c2, c3, c4, c5⟩ := l36 (f := σ (11 + 2 * t1 + 1)) (g := σ (11 + 2 * t2 + 1)) (n1 := n1) (n2 := n2) hr1 hr2 (by omega) (by omega) (by omega) hg9 (D := D) (by omega) n2 0 (upS σ 680 1 0) [] none none (by omega) (by omega) (by rw [off0 _ _ (by omega)]; exact hn1) (by rw [off0 _ _ (by omega)]; exact hn2) (fun k _ => off0 _ _ (by omega)) (fun k _ => off0 _ _ (by omega)) (by rw [off0 _ _ (by omega)]; exact hDD) Rw_nil rfl
  have hA : Dd 222 [vA 0, vI a1, vI a2] σ (rI D s1) := b222 (Or.inl ⟨_, _, kk1, hr1, Or.inl ⟨_, _, kk2, hr2, Or.inl ⟨_, b240 (by rw [if_neg g6]), _, _, b36 ⟨_, d152 cp680.1, c1⟩, rfl⟩⟩⟩)
  have hW := b438 (Or.inl ⟨_, _, hA, rfl⟩)
  have ff : ∀ c k, ¬ c = 660 + 2 * D → ¬ c = 660 + 2 * D + 1 → ¬ c = 658 → ¬ c = 680 → ¬ c = 681 → ¬ c = 726 → upS s1 726 0 (D : Nat) c k = σ c k := fun c k h1 h2 h3 h4 h5 h6 => by rw [up_a h6, c4 c k h1 h2 h3 h4 h5, off0 _ _ h4]
  have f2 : ∀ c k, ¬ c = 660 + 2 * D → ¬ c = 660 + 2 * D + 1 → ¬ c = 658 → ¬ c = 680 → ¬ c = 681 → ¬ c = 726 → ¬ (c = 682 ∧ k = 0) → upS (upS s1 726 0 (D : Nat)) 682 0 0 c k = σ c k := by
    intro c k h1 h2 h3 h4 h5 h6 h7
    have : upS (upS s1 726 0 (D : Nat)) 682 0 0 c k = upS s1 726 0 (D : Nat) c k := by
      unfold upS
      rw [if_neg (by omega)]
    rw [this, ff c k h1 h2 h3 h4 h5 h6]
  obtain ⟨s2, m1, m2, m3, m4, m5, m6⟩ := l382 (r := t1) (t := t2) (n1 := n1) (n2 := n2) (D := D) (f := σ (11 + 2 * t1 + 1)) (g := σ (11 + 2 * t2 + 1)) (by omega) (by omega) (by omega) (by omega) hg9 (by omega) n2 0 (upS (upS s1 726 0 (D : Nat)) 682 0 0) (by omega) (by omega) (by rw [f2 _ _ (by omega) (by omega) (by decide) (by decide) (by decide) (by decide) (by decide)]; omega) (by rw [f2 _ _ (by omega) (by omega) (by decide) (by decide) (by decide) (by decide) (by decide)]; omega) (fun k hk => by
    rw [f2 _ _ (by omega) (by omega) (by decide) (by decide) (by decide) (by decide) (by decide)]
    exact (hb1.2 k (by omega)).symm) (fun k hk => by
    rw [f2 _ _ (by omega) (by omega) (by decide) (by decide) (by decide) (by decide) (by decide)]
    exact (hd1.2 k (by omega)).symm) (by rw [f2 _ _ (by omega) (by omega) (by decide) (by decide) (by decide) (by decide) (by decide)]; omega)
  have hB : Dd 382 [vA 682, vI a1, vI a2] (upS s1 726 0 (D : Nat)) (rI D s2) := by
    refine m0 ?_
    rw [ff 682 _ (by omega) (by omega) (by omega) (by omega) (by omega) (by omega), if_neg (by omega)]
    refine b382_33 ⟨_, _, d245, ?_⟩
    rw [if_pos rfl, if_neg (show ¬ (1 : Int) = 0 by decide)]
    have e := m1 none none none none
    rw [← ht1, ← ht2] at e
    exact e
  have hoff : ∀ c k, ¬ (c = 726 ∨ (c = 682 ∧ (k = 0 ∨ k = 58)) ∨ c = 658 ∨ c = 660 + 2 * D ∨ c = 660 + 2 * D + 1 ∨ c = 680 ∨ c = 681 ∨ (c = 724 ∧ k = D) ∨ (c = 725 ∧ 40 * D ≤ k)) → s2 c k = σ c k := by
    intro c k hc
    by_cases z : c = 725
    · subst z
      rw [m3 k (by omega), f2 _ _ (by omega) (by omega) (by omega) (by omega) (by omega) (by omega) (by omega)]
    · rw [m6 c k z (by omega) (by omega), f2 _ _ (by omega) (by omega) (by omega) (by omega) (by omega) (by omega) (by omega)]
  have hcl : ∀ c k, c < 682 → s2 c k = s1 c k := by
    intro c k hc
    rw [m6 c k (by omega) (by omega) (by omega), up_a (by omega), up_a (by omega)]
  have hlen : ([] ++ cds (σ (11 + 2 * t1 + 1)) (σ (11 + 2 * t2 + 1)) n1 n2 n2 0).length = n2 := by
    rw [List.nil_append, cds_len _ _ (by omega)]
    omega
  refine op_fin hW hB ?_ (fun _ => ?_) (fun a k ha => by rw [up_a (by omega), c4 _ _ (by omega) (by omega) (by omega) (by omega) (by omega), off0 _ _ (by omega)]) (fun a k ha => hoff _ _ (by omega)) ?_
  · rw [m6 _ _ (by decide) (by omega) (by omega), up_s]
  · rw [m6 _ _ (by decide) (by omega) (by omega), up_a (by decide), up_s]
  · refine Rel_D (D := D) (by omega) hDD (by omega) hoff (by rw [hcl _ _ (by decide)]; exact c3) m5 (Rw_fr (hcl _ _ (by omega)) (fun k => hcl _ _ (by omega)) c2) (by rw [hlen]; omega) (by rw [hlen]; exact m4) (fun i v hv => ?_) (by rw [hcl _ _ (by decide)]; exact c5) H
    rw [List.nil_append] at hv
    have e := m2 i v hv
    rw [Nat.add_zero] at e
    rw [e]
    have hm := cds_ok (f := σ (11 + 2 * t1 + 1)) (g := σ (11 + 2 * t2 + 1)) (n1 := n1) (n2 := n2) (by omega) hg9 n2 0 v (List.mem_of_getElem? hv)
    unfold enc
    rcases hm with z | z
    · rw [if_pos (by omega)]; exact Or.inl ⟨z.1, z.2, rfl⟩
    · rw [if_neg (by omega)]; exact Or.inr ⟨z.1, z.2, rfl⟩
end
-- DRAFT 70.trees1.lean
/-! setFile, compose. -/
noncomputable section
theorem d51_ok {t n : Int} {σ : Sg} (ht : 0 ≤ t ∧ t < 3) (hn : 0 ≤ n ∧ n < 6) : Dd 51 [vI t, vI n] σ (rI (t * 6 + n) σ) := by
  refine b51 ?_
  rw [if_pos ht.1, if_pos ht.2, if_pos hn.1, if_pos hn.2]
  refine b51_24 ⟨by intro _; omega, by intro _; omega, ?_⟩
  rw [if_neg (by decide)]
theorem d50_ok {t n : Int} {σ : Sg} (ht : 0 ≤ t ∧ t < 3) (hn : 0 ≤ n ∧ n < 6) : Dd 50 [vA 614, vI t, vI n] σ (rI (if σ 652 (t * 6 + n).toNat = 0 then 0 else 1) σ) := by
  refine b50 ⟨_, _, d51_ok ht hn, by intro _; omega, ?_⟩
  rw [if_pos (show t * 6 + n < 18 by omega)]
theorem l368 {f t : Nat} (hf : f < 18) (ht : t < 4) {n : Nat} (hn : n ≤ 16) {d1 d2 d4 : Option AV} {x6 : Int} (h6 : x6 = 0 ∨ x6 = 1) : ∀ (w i : Nat) (σ : Sg), i + w = n → σ 718 f = (n : Nat) → C368_114 d1 d2 t d4 f x6 i σ (rI x6 (acS σ 719 (16 * f) 683 (16 * t) i n)) := by
  intro w
  induction w with
  | zero =>
    intro i σ h1 h2
    refine b368_114 ⟨by omega, ?_⟩
    rw [show ((f : Int)).toNat = f by omega, if_neg (by omega), show i = n by omega, acS_end]
    exact ⟨h6, rfl⟩
  | succ w ih =>
    intro i σ h1 h2
    refine b368_114 ⟨by omega, ?_⟩
    rw [show ((f : Int)).toNat = f by omega, if_pos (by omega)]
    refine ⟨by omega, by omega, by omega, by omega, by omega, by omega, by omega, ?_⟩
    have e := ih (i + 1) (upS σ 719 (16 * f + i) (σ 683 (16 * t + i))) (by omega) (by rw [up_a (by decide)]; exact h2)
    rw [acS_step (by omega) (by decide)] at e
    rw [show ((16 * (f : Int)) + (i : Int)).toNat = 16 * f + i by omega, show ((16 * (t : Int)) + (i : Int)).toNat = 16 * t + i by omega, show (i : Int) + 1 = ((i + 1 : Nat) : Int) by omega]
    exact e
/-- nothing but trees was written, besides -/
theorem Rel_F {σ s : Sg} {c0 c1 : Int} (hc : c0 ≤ c1) (h : ∀ c k, ¬ (c = 726 ∨ (c = 682 ∧ (k = 0 ∨ k = 53)) ∨ (616 ≤ c ∧ c ≤ 657) ∨ (717 ≤ c ∧ c ≤ 721)) → s c k = σ c k) (hw : ∀ a, isRow a = true → 616 ≤ a → a ≤ 657 → 0 ≤ s a 1 ∧ s a 1 ≤ (cap a : Int)) (hF : RF s) (H : Rel c0 σ) : Rel c1 s := by
  obtain ⟨g1, g2, g3, g4, g5, g6, g7, g8, g9⟩ := H
  refine ⟨fun a ha => ?_, Zl_fr (fun k => h _ _ (by omega)) g2, RT_fr (fun c k hc => h _ _ (by omega)) g3, RB_fr (fun c k hc => h _ _ (by omega)) g4, RP_fr (fun c k hc => h _ _ (by omega)) g5, RSt_fr hc (fun c k hc => h _ _ (by omega)) g6, RU_fr (fun c k hc => h _ _ (by omega)) g7, hF, RD_fr (fun c k hc => h _ _ (by omega)) g9⟩
  have hlt := row_lt ha
  by_cases e : 616 ≤ a ∧ a ≤ 657
  · exact hw a ha e.1 e.2
  · rw [h _ _ (by omega)]
    exact g1 a ha
theorem o43 {σ : Sg} {c a1 a2 a3 : Int} (H : Rel c σ) : OpB 431 368 [vA 0, vI a1, vI a2, vI a3, vA 726] [vA 682, vI a1, vI a2, vI a3] σ (c + 1) := by
  by_cases g1 : a1 < 0
  · exact x43_0 H g1
  by_cases g2 : 3 ≤ a1
  · exact x43_1 H g2
  have k1 : 0 ≤ a1 ∧ a1 < 3 := by omega
  by_cases g3 : a2 < 0
  · exact x43_2 H k1 g3
  by_cases g4 : 6 ≤ a2
  · exact x43_3 H k1 g4
  have k2 : 0 ≤ a2 ∧ a2 < 6 := by omega
  by_cases g5 : a3 < -1
  · by_cases z : σ 652 (a1 * 6 + a2).toNat = 0
    · exact x43_4 H k1 k2 ⟨g5, z⟩
    · exact x43_6 H k1 k2 ⟨g5, z⟩
  by_cases g6 : 4 ≤ a3
  · by_cases z : σ 652 (a1 * 6 + a2).toNat = 0
    · exact x43_5 H k1 k2 ⟨g6, z⟩
    · exact x43_7 H k1 k2 ⟨g6, z⟩
  obtain ⟨fi, hfi⟩ := Int.eq_ofNat_of_zero_le (show 0 ≤ a1 * 6 + a2 by omega)
  have hf18 : fi < 18 := by omega
  have hE := d50_ok (σ := σ) k1 k2
  have hRF := H.2.2.2.2.2.2.2.1
  obtain ⟨p1, p2, p3⟩ := hRF.1 fi hf18
  have hhad : (if σ 652 fi = 0 then (0 : Int) else 1) = σ 652 fi := by
    rcases p2 with z | z
    · rw [if_pos z, z]
    · rw [if_neg (by omega), z]
  rw [hfi, show ((fi : Nat) : Int).toNat = fi by omega, hhad] at hE
  have h51 := d51_ok (σ := σ) k1 k2
  rw [hfi] at h51
  have e246a : ∀ {s : Sg}, Dd 246 [vI a1, vI 3] s (rI 1 s) := by
    intro s
    have e := d246 (x := a1) (n := 3) (σ := s)
    rw [if_pos k1] at e
    exact e
  have e246b : ∀ {s : Sg}, Dd 246 [vI a2, vI 6] s (rI 1 s) := by
    intro s
    have e := d246 (x := a2) (n := 6) (σ := s)
    rw [if_pos k2] at e
    exact e
  by_cases g7 : a3 = -1
  · -- the file is taken away
    have hA : Dd 215 [vA 0, vI a1, vI a2, vI a3] σ (rI (σ 652 fi) (upS σ 652 fi 0)) := by
      refine b215 (Or.inl ⟨_, d232_ok k1, Or.inl ⟨_, d232_ok k2, _, _, hE, ?_⟩⟩)
      rw [if_pos g7]
      refine ⟨_, b52 ⟨_, _, h51, ?_⟩, p2, rfl⟩
      rw [if_pos (by omega)]
      exact ⟨by omega, rfl⟩
    have hW : Dd 431 [vA 0, vI a1, vI a2, vI a3, vA 726] σ (rI 0 (upS (upS σ 652 fi 0) 726 0 (if σ 652 fi = 0 then 0 else 1))) := b431 (Or.inl ⟨_, _, hA, b431_18 ⟨by decide, rfl⟩⟩)
    have hB : Dd 368 [vA 682, vI a1, vI a2, vI a3] (upS (upS σ 652 fi 0) 726 0 (if σ 652 fi = 0 then 0 else 1)) (rI (σ 652 fi) (upS (upS (upS (upS (upS σ 652 fi 0) 726 0 (if σ 652 fi = 0 then 0 else 1)) 682 0 0) 717 fi 0) 718 fi 0)) := by
      refine b368 ⟨_, _, e246a, ?_⟩
      rw [if_neg (show ¬ (1 : Int) = 0 by decide)]
      refine ⟨_, _, e246b, ?_⟩
      rw [if_neg (show ¬ (1 : Int) = 0 by decide)]
      have e247 : Dd 247 [vI a3] (upS (upS σ 652 fi 0) 726 0 (if σ 652 fi = 0 then 0 else 1)) (rI 0 (upS (upS σ 652 fi 0) 726 0 (if σ 652 fi = 0 then 0 else 1))) := by
        refine b247 ⟨_, _, d246, ?_, ?_⟩
        · rw [if_neg (by omega)]; exact Or.inl rfl
        · rw [if_neg (by omega)]
      refine ⟨_, _, e247, ?_⟩
      rw [if_pos rfl, if_pos g7]
      refine b368_29 (b368_34 ?_)
      rw [if_neg (show ¬ (1 : Int) = 0 by decide)]
      refine b368_47 ⟨_, _, d245, ?_⟩
      rw [if_pos rfl, if_neg (show ¬ (1 : Int) = 0 by decide), if_pos g7, show 6 * a1 + a2 = (fi : Int) by omega, show ((fi : Nat) : Int).toNat = fi by omega]
      refine ⟨by omega, by omega, by omega, b368_88 ⟨by omega, Or.inl rfl, fun z => absurd g7 z, b368_110 ⟨by omega, b368_114 ⟨by omega, ?_⟩⟩⟩⟩
      rw [if_pos g7, show ((fi : Nat) : Int).toNat = fi by omega, up_s, if_neg (show ¬ (0 : Int) < 0 by decide), up_a (show ¬ 717 = 682 by decide), up_a (show ¬ 717 = 726 by decide), up_a (show ¬ 717 = 652 by decide), p1]
      exact ⟨p2, rfl⟩
    have hoff : ∀ c k, ¬ ((c = 652 ∧ k = fi) ∨ c = 726 ∨ (c = 682 ∧ k = 0) ∨ (c = 717 ∧ k = fi) ∨ (c = 718 ∧ k = fi)) → (upS (upS (upS (upS (upS σ 652 fi 0) 726 0 (if σ 652 fi = 0 then 0 else 1)) 682 0 0) 717 fi 0) 718 fi 0) c k = σ c k := by
      intro c k h
      unfold upS
      rw [if_neg (by omega), if_neg (by omega), if_neg (by omega), if_neg (by omega), if_neg (by omega)]
    have z1 : (upS (upS (upS (upS (upS σ 652 fi 0) 726 0 (if σ 652 fi = 0 then 0 else 1)) 682 0 0) 717 fi 0) 718 fi 0) 682 0 = 0 := by rw [up_a (by decide), up_a (by decide), up_s]
    have z2 : (upS (upS (upS (upS (upS σ 652 fi 0) 726 0 (if σ 652 fi = 0 then 0 else 1)) 682 0 0) 717 fi 0) 718 fi 0) 726 0 = (if σ 652 fi = 0 then 0 else 1) := by rw [up_a (by decide), up_a (by decide), up_a (by decide), up_s]
    have z3 : (upS (upS (upS (upS (upS σ 652 fi 0) 726 0 (if σ 652 fi = 0 then 0 else 1)) 682 0 0) 717 fi 0) 718 fi 0) 717 fi = 0 := by rw [up_a (by decide), up_s]
    have z4 : (upS (upS (upS (upS (upS σ 652 fi 0) 726 0 (if σ 652 fi = 0 then 0 else 1)) 682 0 0) 717 fi 0) 718 fi 0) 652 fi = 0 := by rw [up_a (by decide), up_a (by decide), up_a (by decide), up_a (by decide), up_s]
    generalize (upS (upS (upS (upS (upS σ 652 fi 0) 726 0 (if σ 652 fi = 0 then 0 else 1)) 682 0 0) 717 fi 0) 718 fi 0) = s at hB hoff z1 z2 z3 z4
    refine op_finB hW hB z1 (fun _ => z2) (fun a k ha => by rw [up_a (by omega), up_a (by omega)]) (fun a k ha => hoff _ _ (by omega)) (Rel_F (by omega) (fun c k hc => hoff _ _ (by omega)) (fun a ha h1 h2 => ?_) ?_ H)
    · have n1 : ¬ a = 652 := by intro e; subst e; exact absurd ha (by decide +kernel)
      rw [hoff _ _ (by omega)]
      exact H.1 a ha
    · obtain ⟨q1, q2, q3, q4, q5⟩ := hRF
      have e53 : s 682 53 = σ 682 53 := hoff _ _ (by omega)
      refine ⟨fun f hf => ?_, by omega, by omega, rowEq_fr (hoff _ _ (by omega)) (fun i => hoff _ _ (by omega)) (fun i => hoff _ _ (by omega)) (by rw [e53]) q4, fun i hi => ?_⟩
      · by_cases e : f = fi
        · rw [e, z3, z4]
          exact ⟨rfl, Or.inl rfl, fun q => absurd q (by decide)⟩
        · obtain ⟨r1, r2, r3⟩ := q1 f hf
          rw [hoff 717 f (by omega), hoff 652 f (by omega)]
          exact ⟨r1, r2, fun hh => rowEq_fr (hoff _ _ (by omega)) (fun i => hoff _ _ (by omega)) (fun i => hoff _ _ (by omega)) (hoff _ _ (by omega)) (r3 hh)⟩
      · rw [hoff _ _ (by omega)] at hi
        rw [hoff _ _ (by omega)]
        exact q5 i hi
  · -- the file is written
    have k3 : 0 ≤ a3 ∧ a3 < 4 := by omega
    obtain ⟨t1, t2, t3⟩ := rel_t H k3
    have hr3 := (el_1 k3).2
    have hcc := cp_1 k3
    obtain ⟨ti, hti⟩ := Int.eq_ofNat_of_zero_le k3.1
    have k227 := d227_ok (σ := σ) k3
    obtain ⟨w1, w2⟩ := H.2.2.1 a3.toNat (by omega)
    rw [show a3.toNat = ti by omega] at t1 t2 t3 hr3 hcc k227 w1 w2
    obtain ⟨n, hn⟩ := Int.eq_ofNat_of_zero_le t2
    have hfe := el_615 (i := (fi : Int)) (by omega)
    have hfc := cp_615 (i := (fi : Int)) (by omega)
    rw [show ((fi : Nat) : Int).toNat = fi by omega] at hfe hfc
    have wr : wR (upS σ 652 fi 1) (2 + 2 * ti) := ⟨hr3, by rw [up_a (by omega)]; omega, by rw [up_a (by omega)]; omega⟩
    have hcp : (upS σ 652 fi 1) (2 + 2 * ti) 1 ≤ (cap (616 + 2 * fi) : Int) := by rw [up_a (by omega)]; omega
    have hA : Dd 215 [vA 0, vI a1, vI a2, vI a3] σ (rI (σ 652 fi) (bcS (upS σ 652 fi 1) (616 + 2 * fi) (2 + 2 * ti))) := by
      refine b215 (Or.inl ⟨_, d232_ok k1, Or.inl ⟨_, d232_ok k2, _, _, hE, ?_⟩⟩)
      rw [if_neg g7]
      refine Or.inl ⟨_, _, k227, hr3, _, b53 ⟨_, _, h51, ?_⟩, p2, rfl⟩
      rw [if_pos (by omega), if_pos (by omega), show ((fi : Nat) : Int).toNat = fi by omega]
      exact ⟨by omega, by omega, _, hfe.1, hfe.2, _, d155 hfe.2 wr, rfl⟩
    have hW : Dd 431 [vA 0, vI a1, vI a2, vI a3, vA 726] σ (rI 0 (upS (bcS (upS σ 652 fi 1) (616 + 2 * fi) (2 + 2 * ti)) 726 0 (if σ 652 fi = 0 then 0 else 1))) := b431 (Or.inl ⟨_, _, hA, b431_18 ⟨by decide, rfl⟩⟩)
    have c0 : ∀ c k, ¬ (c = 652 ∧ k = fi) → ¬ c = 726 → ¬ (c = 616 + 2 * fi) → ¬ c = 616 + 2 * fi + 1 → (upS (bcS (upS σ 652 fi 1) (616 + 2 * fi) (2 + 2 * ti)) 726 0 (if σ 652 fi = 0 then 0 else 1)) c k = σ c k := by
      intro c k h1 h2 h3 h4
      rw [up_a h2, bc_off h3 h4]
      unfold upS
      rw [if_neg h1]
    have c1 : (upS (bcS (upS σ 652 fi 1) (616 + 2 * fi) (2 + 2 * ti)) 726 0 (if σ 652 fi = 0 then 0 else 1)) 652 fi = 1 := by
      rw [up_a (by decide), bc_off (by omega) (by omega), up_s]
    have c2 : (upS (bcS (upS σ 652 fi 1) (616 + 2 * fi) (2 + 2 * ti)) 726 0 (if σ 652 fi = 0 then 0 else 1)) 726 0 = (if σ 652 fi = 0 then 0 else 1) := up_s
    have c3 : (upS (bcS (upS σ 652 fi 1) (616 + 2 * fi) (2 + 2 * ti)) 726 0 (if σ 652 fi = 0 then 0 else 1)) (616 + 2 * fi) 1 = (n : Nat) := by
      rw [up_a (by omega), bc_sz hcp, up_a (by omega)]; exact hn
    have c4 : ∀ k, k < n → (upS (bcS (upS σ 652 fi 1) (616 + 2 * fi) (2 + 2 * ti)) 726 0 (if σ 652 fi = 0 then 0 else 1)) (616 + 2 * fi + 1) k = σ (2 + 2 * ti + 1) k := by
      intro k hk
      rw [up_a (by omega), bc_val hcp (by omega) (by rw [up_a (by omega)]; omega), up_a (by omega)]
    generalize (upS (bcS (upS σ 652 fi 1) (616 + 2 * fi) (2 + 2 * ti)) 726 0 (if σ 652 fi = 0 then 0 else 1)) = s1 at hW c0 c1 c2 c3 c4
    have m1 := l368 (f := fi) (t := ti) (n := n) (d1 := some (vI a1)) (d2 := some (vI a2)) (d4 := some (vI 1)) (x6 := σ 652 fi) hf18 (by omega) (by omega) p2 n 0 (upS (upS (upS s1 682 0 0) 717 fi 1) 718 fi (n : Nat)) (by omega) up_s
    have hB : Dd 368 [vA 682, vI a1, vI a2, vI a3] s1 (rI (σ 652 fi) (acS (upS (upS (upS s1 682 0 0) 717 fi 1) 718 fi (n : Nat)) 719 (16 * fi) 683 (16 * ti) 0 n)) := by
      refine b368 ⟨_, _, e246a, ?_⟩
      rw [if_neg (show ¬ (1 : Int) = 0 by decide)]
      refine ⟨_, _, e246b, ?_⟩
      rw [if_neg (show ¬ (1 : Int) = 0 by decide)]
      refine ⟨_, _, d247_ok k3, ?_⟩
      rw [if_neg (show ¬ (1 : Int) = 0 by decide)]
      refine b368_29 (b368_34 ?_)
      rw [if_neg (show ¬ (1 : Int) = 0 by decide)]
      refine b368_47 ⟨_, _, d245, ?_⟩
      rw [if_pos rfl, if_neg (show ¬ (1 : Int) = 0 by decide), if_neg g7, show 6 * a1 + a2 = (fi : Int) by omega, show ((fi : Nat) : Int).toNat = fi by omega]
      refine ⟨by omega, by omega, by omega, b368_88 ⟨by omega, Or.inr rfl, fun z => k3, b368_110 ⟨by omega, ?_⟩⟩⟩
      rw [if_neg g7, show ((fi : Nat) : Int).toNat = fi by omega, show a3.toNat = ti by omega, up_a (show ¬ 684 = 717 by decide), up_a (show ¬ 684 = 682 by decide), up_a (show ¬ 717 = 682 by decide), c0 684 _ (by omega) (by omega) (by omega) (by omega), c0 717 _ (by omega) (by omega) (by omega) (by omega), p1, ← t1, hn, hti]
      exact m1
    have hoff : ∀ c k, ¬ ((c = 652 ∧ k = fi) ∨ c = 616 + 2 * fi ∨ c = 616 + 2 * fi + 1 ∨ c = 726 ∨ (c = 682 ∧ k = 0) ∨ (c = 717 ∧ k = fi) ∨ (c = 718 ∧ k = fi) ∨ (c = 719 ∧ 16 * fi ≤ k ∧ k < 16 * fi + n)) → (acS (upS (upS (upS s1 682 0 0) 717 fi 1) 718 fi (n : Nat)) 719 (16 * fi) 683 (16 * ti) 0 n) c k = σ c k := by
      intro c k h
      have e : (acS (upS (upS (upS s1 682 0 0) 717 fi 1) 718 fi (n : Nat)) 719 (16 * fi) 683 (16 * ti) 0 n) c k = s1 c k := by
        unfold acS
        rw [if_neg (by omega)]
        unfold upS
        rw [if_neg (by omega), if_neg (by omega), if_neg (by omega)]
      rw [e, c0 c k (by omega) (by omega) (by omega) (by omega)]
    have hlo : ∀ c k, c < 682 → (acS (upS (upS (upS s1 682 0 0) 717 fi 1) 718 fi (n : Nat)) 719 (16 * fi) 683 (16 * ti) 0 n) c k = s1 c k := by
      intro c k h
      rw [acS_off (by omega), up_a (by omega), up_a (by omega), up_a (by omega)]
    have z1 : (acS (upS (upS (upS s1 682 0 0) 717 fi 1) 718 fi (n : Nat)) 719 (16 * fi) 683 (16 * ti) 0 n) 682 0 = 0 := by rw [acS_off (by decide), up_a (by decide), up_a (by decide), up_s]
    have z2 : (acS (upS (upS (upS s1 682 0 0) 717 fi 1) 718 fi (n : Nat)) 719 (16 * fi) 683 (16 * ti) 0 n) 726 0 = (if σ 652 fi = 0 then 0 else 1) := by rw [acS_off (by decide), up_a (by decide), up_a (by decide), up_a (by decide), c2]
    have z3 : (acS (upS (upS (upS s1 682 0 0) 717 fi 1) 718 fi (n : Nat)) 719 (16 * fi) 683 (16 * ti) 0 n) 717 fi = 1 := by rw [acS_off (by decide), up_a (by decide), up_s]
    have z5 : (acS (upS (upS (upS s1 682 0 0) 717 fi 1) 718 fi (n : Nat)) 719 (16 * fi) 683 (16 * ti) 0 n) 718 fi = (n : Nat) := by rw [acS_off (by decide), up_s]
    have z6 : ∀ k, k < n → (acS (upS (upS (upS s1 682 0 0) 717 fi 1) 718 fi (n : Nat)) 719 (16 * fi) 683 (16 * ti) 0 n) 719 (16 * fi + k) = σ 683 (16 * ti + k) := by
      intro k hk
      rw [acS_val hk, up_a (by decide), up_a (by decide), up_a (by decide), c0 _ _ (by omega) (by omega) (by omega) (by omega)]
    generalize (acS (upS (upS (upS s1 682 0 0) 717 fi 1) 718 fi (n : Nat)) 719 (16 * fi) 683 (16 * ti) 0 n) = s at hB hoff hlo z1 z2 z3 z5 z6
    refine op_finB hW hB z1 (fun _ => z2) (fun a k ha => c0 _ _ (by omega) (by omega) (by omega) (by omega)) (fun a k ha => hoff _ _ (by omega)) (Rel_F (by omega) (fun c k hc => hoff _ _ (by omega)) (fun a ha h1 h2 => ?_) ?_ H)
    · have n1 : ¬ a = 652 := by intro e; subst e; exact absurd ha (by decide +kernel)
      by_cases e : a = 616 + 2 * fi
      · rw [e, hlo _ _ (by omega), c3]
        omega
      · have n3 := row_nx hfe.2 ha
        rw [hoff _ _ (by omega)]
        exact H.1 a ha
    · obtain ⟨q1, q2, q3, q4, q5⟩ := hRF
      have e53 : s 682 53 = σ 682 53 := hoff _ _ (by omega)
      refine ⟨fun f hf => ?_, by omega, by omega, rowEq_fr (hoff _ _ (by omega)) (fun i => hoff _ _ (by omega)) (fun i => hoff _ _ (by omega)) (by rw [e53]) q4, fun i hi => ?_⟩
      · by_cases e : f = fi
        · subst e
          rw [z3, hlo _ _ (by decide), c1]
          refine ⟨rfl, Or.inr rfl, fun _ => ⟨by rw [hlo _ _ (by omega), c3, z5], fun i hi => ?_⟩⟩
          rw [z5] at hi
          rw [hlo _ _ (by omega), c4 i (by omega), z6 i (by omega)]
          exact w1.2 i (by omega)
        · obtain ⟨r1, r2, r3⟩ := q1 f hf
          rw [hoff 717 f (by omega), hoff 652 f (by omega)]
          refine ⟨r1, r2, fun hh => ?_⟩
          have r3 := r3 hh
          have wf := H.1 _ (el_615 (i := (f : Int)) (by omega)).2
          have wfc := cp_615 (i := (f : Int)) (by omega)
          rw [show ((f : Nat) : Int).toNat = f by omega] at wf wfc
          have r31 := r3.1
          refine ⟨by rw [hoff _ _ (by omega), hoff _ _ (by omega)]; exact r3.1, fun i hi => ?_⟩
          rw [hoff 718 _ (by omega)] at hi
          rw [hoff (616 + 2 * f + 1) i (by omega), hoff 719 _ (by omega)]
          exact r3.2 i hi
      · rw [hoff _ _ (by omega)] at hi
        rw [hoff _ _ (by omega)]
        exact q5 i hi
end
-- DRAFT 71.trees2.lean
/-! compose. -/
noncomputable section
theorem r653 : isRow 653 = true ∧ cap 653 = 60 ∧ isRow 655 = true ∧ cap 655 = 6 := by decide +kernel
theorem d54_ok {σ : Sg} {D : Nat} (h : σ 653 1 = 6 * (D : Int)) : Dd 54 [vA 614] σ (rI D σ) := by
  have e : Int.tdiv (σ 653 1) 6 = (D : Int) := by
    rw [h, td (by omega)]
    omega
  refine b54 ⟨_, _, d146 r653.1, ?_⟩
  rw [e]
theorem d55_in {σ : Sg} {d n : Int} (hw : wR σ 653) (hd : 0 ≤ d ∧ d < 10) (hn : 0 ≤ n ∧ n < 6) : Dd 55 [vA 614, vI d, vI n] σ (rI (atS σ 653 (d * 6 + n)) σ) := by
  refine b55 ?_
  rw [if_pos hn.1, if_pos hn.2]
  exact ⟨by omega, by omega, _, _, d147 hw, rfl⟩
theorem d55_out {σ : Sg} {d n : Int} (hn : n < 0) : Dd 55 [vA 614, vI d, vI n] σ (rI (-1) σ) := by
  refine b55 ?_
  rw [if_neg (by omega)]
/-- where the second difference leads from where the first one leads -/
def cmp6 (F : Nat → Int) (a b k : Nat) : Int := if F (6 * a + k) = -1 then -1 else F (6 * b + (F (6 * a + k)).toNat)
theorem l57 {a b D : Nat} {F : Nat → Int} (ha : a < D) (hb : b < D) (hD : D < 10) (hF : ∀ i, i < 6 * D → -1 ≤ F i ∧ F i ≤ 5) : ∀ (w k : Nat) (σ : Sg) (l : List Int), k + w = 6 → σ 653 1 = 6 * (D : Int) → (∀ i, i < 6 * D → σ 654 i = F i) → Rw σ 655 l → l.length = k → ∃ s l2, C57_9 a b k σ (rI D s) ∧ l2 = l ++ (List.range' k w).map (cmp6 F a b) ∧ s 653 1 = 6 * (D : Int) + 6 ∧ (∀ i, i < 6 * D → s 654 i = F i) ∧ (∀ i v, l2[i]? = some v → s 654 (6 * D + i) = v) ∧ s 655 1 = 6 ∧ ∀ c j, ¬ c = 653 → ¬ c = 654 → ¬ c = 655 → ¬ c = 656 → s c j = σ c j := by
  intro w
  induction w with
  | zero =>
    intro k σ l q1 q2 q3 q4 q5
    have h653 : Rw σ 653 (rl σ 653) := Rw_rl (by omega)
    have hlen : (rl σ 653).length = 6 * D := by have := h653.1; omega
    have e5 : ((l.take (6 : Int).toNat).drop (0 : Int).toNat) = l := by
      show (l.take 6).drop 0 = l
      rw [List.drop_zero, List.take_of_length_le (by omega)]
    obtain ⟨s, g1, g2, g3⟩ := d154 (x := 0) (y := 6) r653.1 r653.2.2.1 h653 q4 (by rw [r653.2.2.2]; omega) (by decide) (by rw [e5, r653.2.1]; omega)
    rw [e5] at g2
    have e653 : s 653 1 = 6 * ((D + 1 : Nat) : Int) := by rw [g2.1, List.length_append]; omega
    have e655 : s 655 1 = 6 := by rw [g3 655 1 (by decide) (by decide), q4.1]; omega
    have e146 := d146 (σ := σ) r653.2.2.1
    rw [show σ 655 1 = 6 by rw [q4.1]; omega] at e146
    refine ⟨s, l, b57_9 ?_, by simp, by omega, fun i hi => ?_, fun i v hv => ?_, e655, fun c j h1 h2 _ _ => g3 c j h1 h2⟩
    · rw [if_neg (by omega)]
      refine ⟨_, _, b58 ⟨_, _, e146, _, g1, _, _, d54_ok e653, by omega, rfl⟩, ?_⟩
      rw [show ((D + 1 : Nat) : Int) - 1 = (D : Int) by omega]
    · rw [← q3 i hi]
      have hv := List.getElem?_eq_getElem (l := rl σ 653) (i := i) (by omega)
      rw [g2.2 i _ (by rw [List.getElem?_append_left (by omega)]; exact hv)]
      exact (h653.2 i _ hv).symm
    · exact g2.2 _ v (by rw [List.getElem?_append_right (by omega), hlen, Nat.add_sub_cancel_left]; exact hv)
  | succ w ih =>
    intro k σ l q1 q2 q3 q4 q5
    have hw : wR σ 653 := ⟨r653.1, by omega, by rw [r653.2.1]; omega⟩
    have ea : ∀ e i : Nat, e < D → i < 6 → atS σ 653 ((e : Int) * 6 + (i : Int)) = F (6 * e + i) := by
      intro e i he hi
      unfold atS
      rw [if_pos (by omega), show ((e : Int) * 6 + (i : Int)).toNat = 6 * e + i by omega]
      exact q3 _ (by omega)
    have hg := hF (6 * a + k) (by omega)
    have d1 := d55_in (d := (a : Int)) (n := (k : Int)) hw (by omega) (by omega)
    rw [ea a k ha (by omega)] at d1
    have d2 : Dd 55 [vA 614, vI b, vI (F (6 * a + k))] σ (rI (cmp6 F a b k) σ) := by
      unfold cmp6
      by_cases z : F (6 * a + k) = -1
      · rw [if_pos z]
        exact d55_out (by omega)
      · rw [if_neg z]
        have d2 := d55_in (d := (b : Int)) (n := F (6 * a + k)) hw (by omega) (by omega)
        have := ea b (F (6 * a + k)).toNat hb (by omega)
        rw [show (((F (6 * a + k)).toNat : Nat) : Int) = F (6 * a + k) by omega] at this
        rw [this] at d2
        exact d2
    have w5 : wR σ 655 := Rw_wR r653.2.2.1 q4 (by rw [r653.2.2.2]; omega)
    obtain ⟨s, l2, g1, g2, g3, g4, g5, g6, g7⟩ := ih (k + 1) (adS σ 655 (cmp6 F a b k)) (l ++ [cmp6 F a b k]) (by omega) (by rw [ad_off (by decide) (by decide)]; exact q2) (fun i hi => by rw [ad_off (by decide) (by decide)]; exact q3 i hi) (Rw_ad q4 (by rw [r653.2.2.2]; omega)) (by rw [List.length_append, q5]; rfl)
    refine ⟨s, l2, b57_9 ?_, ?_, g3, g4, g5, g6, fun c j h1 h2 h3 h4 => by rw [g7 c j h1 h2 h3 h4, ad_off h3 h4]⟩
    · rw [if_pos (by omega)]
      refine ⟨_, _, d1, _, _, d2, _, d149 w5, by omega, ?_⟩
      rw [show (k : Int) + 1 = ((k + 1 : Nat) : Int) by omega]
      exact g1
    · rw [g2, List.append_assoc, List.range'_succ, List.map_cons]
      rfl
theorem l375 {a b D : Nat} {F : Nat → Int} (ha : a < D) (hb : b < D) (hD : D < 10) (hF : ∀ i, i < 6 * D → -1 ≤ F i ∧ F i ≤ 5) {d3 : Option AV} : ∀ (w k : Nat) (σ : Sg) (d5 : Option AV), k + w = 6 → σ 682 53 = (D : Nat) → (∀ i, i < 6 * D → σ 720 i = F i) → ∃ s, C375_62 a b d3 k d5 σ (rI D s) ∧ (∀ i, k ≤ i → i < 6 → s 720 (6 * D + i) = cmp6 F a b i) ∧ (∀ i, i < 6 * D + k → s 720 i = σ 720 i) ∧ s 682 53 = (D : Int) + 1 ∧ ∀ c j, ¬ c = 720 → ¬ (c = 682 ∧ j = 53) → s c j = σ c j := by
  intro w
  induction w with
  | zero =>
    intro k σ d5 q1 q2 q3
    refine ⟨upS σ 682 53 ((D : Int) + 1), b375_62 ?_, fun i h1 h2 => by omega, fun i _ => up_a (by decide), up_s, fun c j h1 h2 => ?_⟩
    · rw [if_neg (by omega), q2, up_s, show ((D : Nat) : Int) + 1 - 1 = (D : Int) by omega]
      exact ⟨by omega, by omega, rfl⟩
    · unfold upS
      rw [if_neg h2]
  | succ w ih =>
    intro k σ d5 q1 q2 q3
    have hg := hF (6 * a + k) (by omega)
    obtain ⟨s, g1, g2, g3, g4, g5⟩ := ih (k + 1) (upS σ 720 (6 * D + k) (cmp6 F a b k)) (some (vI (F (6 * a + k)))) (by omega) (by rw [up_a (by decide)]; exact q2) (fun i hi => by rw [up_k (by omega)]; exact q3 i hi)
    refine ⟨s, b375_62 ?_, fun i h1 h2 => ?_, fun i hi => by rw [g3 i (by omega), up_k (by omega)], g4, fun c j h1 h2 => by rw [g5 c j h1 h2, up_a h1]⟩
    · rw [if_pos (by omega), show (6 * (a : Int) + (k : Int)).toNat = 6 * a + k by omega, q3 _ (by omega), q2]
      refine ⟨by omega, by omega, by omega, by omega, by omega, fun z => by omega, fun z => by omega, fun z => by omega, b375_119 ⟨by omega, by omega, ?_⟩⟩
      have e : (if F (6 * a + k) = -1 then -1 else σ 720 (6 * (b : Int) + F (6 * a + k)).toNat) = cmp6 F a b k := by
        unfold cmp6
        by_cases z : F (6 * a + k) = -1
        · rw [if_pos z, if_pos z]
        · rw [if_neg z, if_neg z, show (6 * (b : Int) + F (6 * a + k)).toNat = 6 * b + (F (6 * a + k)).toNat by omega]
          exact q3 _ (by omega)
      rw [e, show (6 * ((D : Nat) : Int) + (k : Int)).toNat = 6 * D + k by omega, show (k : Int) + 1 = ((k + 1 : Nat) : Int) by omega]
      exact g1
    · by_cases z : i = k
      · subst z
        rw [g3 _ (by omega), up_s]
      · exact g2 i (by omega) h2
theorem o45 {σ : Sg} {c a1 a2 : Int} (H : Rel c σ) : OpR 433 375 [vA 0, vI a1, vI a2, vA 726] [vA 682, vI a1, vI a2] σ (c + 1) := by
  by_cases g1 : a1 < 0
  · exact x45_0 H g1
  by_cases g2 : σ 682 53 ≤ a1
  · exact x45_1 H g2
  have k1 : 0 ≤ a1 ∧ a1 < σ 682 53 := by omega
  by_cases g3 : a2 < 0
  · exact x45_2 H k1 g3
  by_cases g4 : σ 682 53 ≤ a2
  · exact x45_3 H k1 g4
  have k2 : 0 ≤ a2 ∧ a2 < σ 682 53 := by omega
  have hn := (rel_n H).2.2.2.1
  obtain ⟨D, hD⟩ := Int.eq_ofNat_of_zero_le hn.2.1
  obtain ⟨t1, ht1⟩ := Int.eq_ofNat_of_zero_le k1.1
  obtain ⟨t2, ht2⟩ := Int.eq_ofNat_of_zero_le k2.1
  have e653 : σ 653 1 = 6 * (D : Int) := by omega
  have e54 := d54_ok (σ := σ) e653
  have e232a := d232_ok (σ := σ) (i := a1) (n := (D : Int)) (by omega)
  have e232b := d232_ok (σ := σ) (i := a2) (n := (D : Int)) (by omega)
  have m0 : ∀ {σ' : Sg} {o : Rs}, σ' 682 53 = (D : Int) → C375_51 a1 a2 (some (vI 1)) none none (if (D : Int) = 10 then 2 else 0) σ' o → Dd 375 [vA 682, vI a1, vI a2] σ' o := by
    intro σ' o h hh
    have e1 := d246 (x := a1) (n := σ' 682 53) (σ := σ')
    rw [if_pos (by omega)] at e1
    have e2 := d246 (x := a2) (n := σ' 682 53) (σ := σ')
    rw [if_pos (by omega)] at e2
    refine b375 ⟨_, _, e1, ?_⟩
    rw [if_neg (show ¬ (1 : Int) = 0 by decide)]
    refine ⟨_, _, e2, ?_⟩
    rw [if_neg (show ¬ (1 : Int) = 0 by decide)]
    refine b375_27 ?_
    rw [if_neg (show ¬ (1 : Int) = 0 by decide), h]
    exact hh
  by_cases g5 : 10 ≤ D
  · have hA : Dd 217 [vA 0, vI a1, vI a2] σ (rX 2 σ) := b217 ⟨_, _, e54, Or.inl ⟨_, e232a, _, _, e54, Or.inl ⟨_, e232b, Or.inr ⟨_, _, b239 ⟨_, _, e54, by rw [if_pos (by omega)]⟩, rfl⟩⟩⟩⟩
    have hB : Dd 375 [vA 682, vI a1, vI a2] σ (rI 0 (upS σ 682 0 2)) := by
      refine m0 hD ?_
      rw [if_pos (by omega)]
      refine b375_51 ⟨_, _, d245, ?_⟩
      rw [if_neg (show ¬ (2 : Int) = 0 by decide), if_pos rfl]
    exact op_x H (by decide) (b433 (Or.inr (Or.inr ⟨_, hA, rfl⟩))) hB
  have hRF := H.2.2.2.2.2.2.2.1
  obtain ⟨q1, q2, q3, q4, q5⟩ := hRF
  have hF : ∀ i, i < 6 * D → -1 ≤ σ 654 i ∧ σ 654 i ≤ 5 := fun i hi => q5 i (by omega)
  obtain ⟨s1, l2, c1, c2, c3, c4, c5, c6, c7⟩ := l57 (a := t1) (b := t2) (D := D) (F := σ 654) (by omega) (by omega) (by omega) hF 6 0 (upS σ 655 1 0) [] (by omega) (by rw [up_a (by decide)]; exact e653) (fun i _ => up_a (by decide)) Rw_nil rfl
  have hl2 : ∀ i, i < 6 → l2[i]? = some (cmp6 (σ 654) t1 t2 i) := by
    intro i hi
    rw [c2, List.nil_append, List.getElem?_map, List.getElem?_range' hi]
    simp
  have e57 : Dd 57 [vA 614, vI a1, vI a2] σ (rI D s1) := by
    rw [ht1, ht2]
    exact b57 ⟨_, d152 r653.2.2.1, c1⟩
  have hA : Dd 217 [vA 0, vI a1, vI a2] σ (rI D s1) := b217 ⟨_, _, e54, Or.inl ⟨_, e232a, _, _, e54, Or.inl ⟨_, e232b, Or.inl ⟨_, b239 ⟨_, _, e54, by rw [if_neg (by omega)]⟩, _, _, e57, rfl⟩⟩⟩⟩
  have hW := b433 (Or.inl ⟨_, _, hA, rfl⟩)
  have f1 : ∀ c k, ¬ c = 653 → ¬ c = 654 → ¬ c = 655 → ¬ c = 656 → ¬ c = 726 → (upS s1 726 0 (D : Nat)) c k = σ c k := fun c k h1 h2 h3 h4 h5 => by rw [up_a h5, c7 c k h1 h2 h3 h4, up_a h3]
  have c3' : (upS s1 726 0 (D : Nat)) 653 1 = 6 * (D : Int) + 6 := by rw [up_a (by decide)]; exact c3
  have c4' : ∀ i, i < 6 * D → (upS s1 726 0 (D : Nat)) 654 i = σ 654 i := fun i hi => by rw [up_a (by decide)]; exact c4 i hi
  have c5' : ∀ i, i < 6 → (upS s1 726 0 (D : Nat)) 654 (6 * D + i) = cmp6 (σ 654) t1 t2 i := fun i hi => by rw [up_a (by decide)]; exact c5 i _ (hl2 i hi)
  have c6' : (upS s1 726 0 (D : Nat)) 655 1 = 6 := by rw [up_a (by decide)]; exact c6
  have c8 : (upS s1 726 0 (D : Nat)) 726 0 = (D : Nat) := up_s
  generalize (upS s1 726 0 (D : Nat)) = s at hW f1 c3' c4' c5' c6' c8
  obtain ⟨s2, m1, m2, m3, m4, m5⟩ := l375 (a := t1) (b := t2) (D := D) (F := σ 654) (by omega) (by omega) (by omega) hF (d3 := some (vI 1)) 6 0 (upS s 682 0 0) none (by omega) (by rw [up_k (by decide), f1 _ _ (by decide) (by decide) (by decide) (by decide) (by decide)]; exact hD) (fun i hi => by
    rw [up_a (by decide), f1 _ _ (by decide) (by decide) (by decide) (by decide) (by decide)]
    have := q4.2 i (by omega)
    rw [Nat.zero_add] at this
    exact this.symm)
  rw [← ht1, ← ht2] at m1
  have hB : Dd 375 [vA 682, vI a1, vI a2] s (rI D s2) := by
    refine m0 (by rw [f1 _ _ (by decide) (by decide) (by decide) (by decide) (by decide)]; exact hD) ?_
    rw [if_neg (by omega)]
    refine b375_51 ⟨_, _, d245, ?_⟩
    rw [if_pos rfl, if_neg (show ¬ (1 : Int) = 0 by decide)]
    exact m1
  have mo : ∀ c k, ¬ c = 720 → ¬ c = 682 → s2 c k = s c k := fun c k h1 h2 => by rw [m5 c k h1 (fun e => h2 e.1), up_a h2]
  have so : ∀ c k, ¬ c = 653 → ¬ c = 654 → ¬ c = 655 → ¬ c = 656 → ¬ c = 726 → ¬ (c = 682 ∧ (k = 0 ∨ k = 53)) → ¬ c = 720 → s2 c k = σ c k := by
    intro c k h1 h2 h3 h4 h5 h6 h7
    rw [m5 c k h7 (by omega)]
    have : upS s 682 0 0 c k = s c k := by
      unfold upS
      rw [if_neg (by omega)]
    rw [this, f1 c k h1 h2 h3 h4 h5]
  refine op_fin hW hB ?_ (fun _ => by rw [mo _ _ (by decide) (by decide), c8]) (fun a k ha => f1 _ _ (by omega) (by omega) (by omega) (by omega) (by omega)) (fun a k ha => so _ _ (by omega) (by omega) (by omega) (by omega) (by omega) (by omega) (by omega)) (Rel_F (by omega) (fun c k hc => so _ _ (by omega) (by omega) (by omega) (by omega) (by omega) (by omega) (by omega)) (fun a ha h1 h2 => ?_) ⟨fun f hf => ?_, by omega, by omega, ⟨?_, fun i hi => ?_⟩, fun i hi => ?_⟩ H)
  · rw [m5 _ _ (by decide) (by decide), up_s]
  · by_cases e : a = 653
    · rw [e, mo _ _ (by decide) (by decide), c3', r653.2.1]; omega
    · by_cases e2 : a = 655
      · rw [e2, mo _ _ (by decide) (by decide), c6', r653.2.2.2]; omega
      · have n1 := row_nx r653.1 ha
        have n2 := row_nx r653.2.2.1 ha
        rw [so _ _ (by omega) (by omega) (by omega) (by omega) (by omega) (by omega) (by omega)]
        exact H.1 a ha
  · obtain ⟨r1, r2, r3⟩ := q1 f hf
    rw [so 717 f (by decide) (by decide) (by decide) (by decide) (by decide) (by decide) (by decide), so 652 f (by decide) (by decide) (by decide) (by decide) (by decide) (by decide) (by decide)]
    exact ⟨r1, r2, fun hh => rowEq_fr (so _ _ (by omega) (by omega) (by omega) (by omega) (by omega) (by omega) (by omega)) (fun i => so _ _ (by omega) (by omega) (by omega) (by omega) (by omega) (by omega) (by omega)) (fun i => so _ _ (by omega) (by omega) (by omega) (by omega) (by omega) (by omega) (by omega)) (so _ _ (by omega) (by omega) (by omega) (by omega) (by omega) (by omega) (by omega)) (r3 hh)⟩
  · rw [mo _ _ (by decide) (by decide), c3', m4]
    omega
  · rw [m4] at hi
    rw [mo (653 + 1) _ (by decide) (by decide), Nat.zero_add]
    by_cases e : i < 6 * D
    · rw [m3 i (by omega), up_a (by decide), f1 720 _ (by decide) (by decide) (by decide) (by decide) (by decide)]
      have := q4.2 i (by omega)
      rw [Nat.zero_add] at this
      rw [← this]
      exact c4' i e
    · have h1 := c5' (i - 6 * D) (by omega)
      have h2 := m2 (i - 6 * D) (by omega) (by omega)
      rw [show 6 * D + (i - 6 * D) = i by omega] at h1 h2
      rw [h2]
      exact h1
  · rw [mo _ _ (by decide) (by decide), c3'] at hi
    rw [mo _ _ (by decide) (by decide)]
    by_cases e : i < 6 * D
    · rw [c4' i e]; exact hF i e
    · have h1 := c5' (i - 6 * D) (by omega)
      rw [show 6 * D + (i - 6 * D) = i by omega] at h1
      rw [h1]
      unfold cmp6
      have := hF (6 * t1 + (i - 6 * D)) (by omega)
      split
      · omega
      · exact hF _ (by omega)
end
