/-! UNIQUE, the reference as a whole. -/
noncomputable section
def adm (L : List St) (q : St) : List St := L ++ [q]
theorem l272e {σ0 : Sg} {P T : Nat → Int} {a ae b be n1 : Nat} {ks : List Nat} (h40 : ae ≤ 40) (hb40 : be ≤ 40) (h1 : ae ≤ n1) (q18 : σ0 682 18 = (ae : Nat)) (q20 : σ0 682 20 = (be : Nat)) (hin : ∀ (h k : Nat), ks[h]? = some k → k < ae ∧ -1 ≤ P k ∧ P k < (be : Int)) (O : OT σ0 P ks) (hT : ∀ (h k : Nat), ks[h]? = some k → σ0 699 h = T k) (hn : ks.length ≤ 40) : ∀ (d x : Nat) (w : Int) (i j : Nat) (G : Nat → Int) (L : List St) (σ : Sg), x + d = ks.length → w ≤ 100 → i ≤ 40 → j ≤ 41 → L.length + d + 1 ≤ 128 → (∀ c y, ¬ c = 693 → ¬ c = 696 → ¬ (c = 682 ∧ y = 22) → σ c y = σ0 c y) → (∀ y, y < n1 → σ 693 y = G y) → Wt σ L → ∃ s, C272_215 (ks.length : Nat) w i j x σ (rV s) ∧ (∀ y, y < n1 → s 693 y = (selL adm P T ae be (ks.drop x) w i j G L).1 y) ∧ Wt s (selL adm P T ae be (ks.drop x) w i j G L).2 ∧ ∀ c y, ¬ c = 693 → ¬ c = 696 → ¬ (c = 682 ∧ y = 22) → s c y = σ0 c y := by
  intro d
  induction d with
  | zero =>
    intro x w i j G L σ hx hw hi hj hl hF hG hW
    have hd : ks.drop x = [] := List.drop_eq_nil_of_le (by omega)
    rw [hd]
    obtain ⟨s, e1, e2, e3⟩ := d267 (a := i) (k := ae) (b := j) (j := be) hW (by omega)
    refine ⟨s, b272_215 ?_, fun y hy => by rw [e3 _ _ (by decide) (by omega)]; exact hG y hy, e2, fun c y y1 y2 y3 => by rw [e3 c y y2 y3]; exact hF c y y1 y2 y3⟩
    rw [if_neg (by omega), hF 682 18 (by decide) (by decide) (by decide), q18, hF 682 20 (by decide) (by decide) (by decide), q20]
    exact ⟨_, e1, rfl⟩
  | succ d ih =>
    intro x w i j G L σ hx hw hi hj hl hF hG hW
    have hlt : x < ks.length := by omega
    obtain ⟨k, hk⟩ : ∃ k, k = ks[x] := ⟨_, rfl⟩
    have hk2 : ks[x]? = some k := by rw [hk]; exact List.getElem?_eq_getElem hlt
    rw [List.drop_eq_getElem_cons hlt, ← hk]
    obtain ⟨i1, i2, i3⟩ := hin x k hk2
    obtain ⟨o1, o2⟩ := O x k hk2
    have t1 := hT x k hk2
    have e697 : σ 697 x = (k : Nat) := by rw [hF _ _ (by decide) (by decide) (by omega)]; exact o1
    have e698 : σ 698 x = P k := by rw [hF _ _ (by decide) (by decide) (by omega)]; exact o2
    have e699 : σ 699 x = T k := by rw [hF _ _ (by decide) (by decide) (by omega)]; exact t1
    have un : selL adm P T ae be (k :: ks.drop (x + 1)) w i j G L = if 0 < w ∧ T k = w ∧ (j : Int) ≤ P k then selL adm P T ae be (ks.drop (x + 1)) (w - 1) (k + 1) ((P k).toNat + 1) (updG G k (P k)) (adm L (i, k, j, (P k).toNat)) else selL adm P T ae be (ks.drop (x + 1)) w i j G L := rfl
    rw [un]
    by_cases y : 0 < w ∧ T k = w ∧ (j : Int) ≤ P k
    · rw [if_pos y]
      obtain ⟨p, hp⟩ := Int.eq_ofNat_of_zero_le (show 0 ≤ P k by omega)
      have hp2 : (P k).toNat = p := by omega
      rw [hp2]
      have hW1 : Wt (upS σ 693 k (P k)) L := Wt_fr (up_a (by decide)) (fun y => up_a (by decide)) hW
      obtain ⟨s1, c1, c2, c3⟩ := d267 (a := i) (k := k) (b := j) (j := p) hW1 (by omega)
      have hF1 : ∀ c z, ¬ c = 693 → ¬ c = 696 → ¬ (c = 682 ∧ z = 22) → s1 c z = σ0 c z := fun c z y1 y2 y3 => by rw [c3 c z y2 y3, up_a y1]; exact hF c z y1 y2 y3
      obtain ⟨s, a1, a2, a3, a4⟩ := ih (x + 1) (w - 1) (k + 1) (p + 1) (updG G k (P k)) (adm L (i, k, j, p)) s1 (by omega) (by omega) (by omega) (by omega) (by
        unfold adm
        rw [List.length_append]
        show L.length + 1 + d + 1 ≤ 128
        omega) hF1 (fun z hz => by
        rw [c3 _ _ (by decide) (by omega)]
        unfold updG
        by_cases q : z = k
        · rw [if_pos q, q, up_s]
        · rw [if_neg q, up_k q]; exact hG z hz) c2
      refine ⟨s, b272_215 ?_, a2, a3, a4⟩
      have e1 : s1 697 x = (k : Nat) := by rw [hF1 _ _ (by decide) (by decide) (by omega)]; exact o1
      have e2 : s1 698 x = P k := by rw [hF1 _ _ (by decide) (by decide) (by omega)]; exact o2
      rw [if_pos (by omega), if_pos y.1]
      simp only [tn, e697, e698, e699, up_a (show ¬ (697 : Nat) = 693 by decide), up_a (show ¬ (698 : Nat) = 693 by decide)]
      refine ⟨by omega, ?_⟩
      rw [if_pos y.2.1]
      refine ⟨by omega, ?_⟩
      rw [if_pos y.2.2]
      refine ⟨by omega, by omega, by omega, by omega, by omega, s1, ?_, ?_⟩
      · rw [hp] at c1 ⊢
        exact c1
      · rw [e1, e2, hp, show ((k : Nat) : Int) + 1 = ((k + 1 : Nat) : Int) by omega, show ((p : Nat) : Int) + 1 = ((p + 1 : Nat) : Int) by omega, show w + (-1) = w - 1 by omega]
        refine ⟨by omega, by omega, by omega, by omega, by omega, b272_312 ⟨by omega, ?_⟩⟩
        rw [show (x : Int) + 1 = ((x + 1 : Nat) : Int) by omega]
        exact a1
    · rw [if_neg y]
      obtain ⟨s, a1, a2, a3, a4⟩ := ih (x + 1) w i j G L σ (by omega) hw hi hj (by omega) hF hG hW
      refine ⟨s, b272_215 ?_, a2, a3, a4⟩
      have z : C272_312 (ks.length : Nat) w i j x σ (rV s) := b272_312 ⟨by omega, by
        rw [show (x : Int) + 1 = ((x + 1 : Nat) : Int) by omega]
        exact a1⟩
      rw [if_pos (by omega), tn, e699, e698]
      by_cases y0 : 0 < w
      · rw [if_pos y0]
        refine ⟨by omega, ?_⟩
        by_cases y1 : T k = w
        · rw [if_pos y1]
          refine ⟨by omega, ?_⟩
          rw [if_neg (fun e => y ⟨y0, y1, e⟩)]
          exact z
        · rw [if_neg y1]
          exact z
      · rw [if_neg y0]
        exact z
theorem lgs_0 {P : Nat → Int} {ae : Nat} (hP : ∀ k, -1 ≤ P k) : ∀ (d k : Nat), k + d = ae → 0 ≤ lgs P ae d ∧ (lgs P ae d = 0 ↔ lsP P k d = []) := by
  intro d
  induction d with
  | zero =>
    intro k hk
    exact ⟨Int.le_refl 0, ⟨fun _ => rfl, fun _ => rfl⟩⟩
  | succ d ih =>
    intro k hk
    obtain ⟨i0, i1⟩ := ih (k + 1) (by omega)
    have lg := lgs_s (P := P) (a := k) (ae := ae) (k := k) (Nat.le_refl k) (by omega) (hP k)
    rw [show ae - k = d + 1 by omega, show ae - (k + 1) = d by omega] at lg
    have e : lsP P k (d + 1) = if P k = -1 then lsP P (k + 1) d else k :: lsP P (k + 1) d := rfl
    rw [lg, e]
    by_cases y : P k = -1
    · rw [if_pos y, if_pos y]
      exact ⟨i0, i1⟩
    · rw [if_neg y, if_neg y]
      have tk := tls_k (P := P) (a := k) (ae := ae) (k := k) (Nat.le_refl k) (by omega) y (hP k)
      rw [show ae - k = d + 1 by omega, show ae - (k + 1) = d by omega, ← mxl_mxt (T := tls P ae (d + 1)) (hP k) d (k + 1) 0 (fun _ _ _ => rfl)] at tk
      have bm := mxt_b (P := P) (T := tls P ae (d + 1)) (v := P k) (B := ((d + 1 : Nat) : Int)) d (k + 1) 0 (by omega) (by omega) (fun x _ _ => (tls_b (d + 1) x).2)
      have h1 : 1 ≤ mxI (lgs P ae d) (tls P ae (d + 1) k) := by
        unfold mxI
        split <;> omega
      refine ⟨by omega, ⟨fun h => by omega, fun h => by cases h⟩⟩
theorem d272 {f g G : Nat → Int} {n1 n2 a ae b be : Nat} {L : List St} {σ : Sg} (R : MRw σ f g n1 n2) (M : MS σ a ae b be) (ha : a ≤ ae) (hb : b ≤ be) (h1 : ae ≤ n1) (h2 : be ≤ n2) (hG : ∀ x, x < n1 → σ 693 x = G x) (hW : Wt σ L) (hl : L.length + (ae - a) + 1 ≤ 128) : ∃ s, Dd 272 [vA 682] σ (rV s) ∧ (∀ x, x < n1 → s 693 x = if lgs (ptn f g a ae b be) ae (ae - a) = 0 then wk f g ae be ((ae - a) + (be - b)) a b G x else (unq adm f g a ae b be G L).1 x) ∧ Wt s (if lgs (ptn f g a ae b be) ae (ae - a) = 0 then L else (unq adm f g a ae b be G L).2) ∧ ∀ c x, ¬ (693 ≤ c ∧ c ≤ 694) → ¬ (696 ≤ c ∧ c ≤ 699) → ¬ (c = 682 ∧ x = 22) → s c x = σ c x := by
  have n40 := R.1
  have n40' := R.2.1
  have hP : ∀ k, -1 ≤ ptn f g a ae b be k := fun k => by
    rcases ptn_c (f := f) (g := g) (a := a) (ae := ae) (b := b) (be := be) (k := k) with z | ⟨j, z1, -⟩
    · omega
    · omega
  obtain ⟨P, hPd⟩ : ∃ P, P = ptn f g a ae b be := ⟨_, rfl⟩
  obtain ⟨ks, hks⟩ : ∃ ks, ks = lsP P a (ae - a) := ⟨_, rfl⟩
  obtain ⟨s1, a1, a2, a3⟩ := l272a (d3 := none) (d4 := none) (d5 := none) R M ha hb h1 h2 (ae - a) a [] σ (by omega) (Nat.le_refl a) (Nat.zero_le _) (fun _ _ _ _ => rfl) (fun i k h => by simp at h)
  unfold unq
  rw [← hPd] at hP a1 a2 ⊢
  rw [List.nil_append, ← hks] at a1 a2
  have L0 := (lgs_0 (ae := ae) hP (ae - a) a (by omega)).2
  rw [← hks] at L0
  have hkl : ks.length ≤ 40 := by
    have := lsP_len (P := P) (ae - a) a
    rw [← hks] at this
    omega
  have m18 : s1 682 18 = (ae : Nat) := by rw [a3 _ _ (by decide) (by decide)]; exact M.2.1
  by_cases y : lgs P ae (ae - a) = 0
  · have hn : ks = [] := L0.mp y
    have hn2 : ks.length = 0 := by rw [hn]; rfl
    obtain ⟨s, e1, e2, e3⟩ := d266 (σ0 := s1) (G := G) (f := f) (g := g) ha hb h1 h2 (by omega) (by omega) (by rw [a3 _ _ (by decide) (by decide)]; exact M.1) m18 (by rw [a3 _ _ (by decide) (by decide)]; exact M.2.2.1) (by rw [a3 _ _ (by decide) (by decide)]; exact M.2.2.2) (fun i hi => by rw [a3 _ _ (by decide) (by decide)]; exact R.2.2.1 i hi) (fun i hi => by rw [a3 _ _ (by decide) (by decide)]; exact R.2.2.2 i hi) (fun x hx => by rw [a3 _ _ (by decide) (by decide)]; exact hG x hx)
    rw [if_pos y]
    refine ⟨s, b272 ?_, fun x hx => by rw [if_pos y]; exact e2 x hx, Wt_fr (by rw [e3 _ _ (by decide) (by decide), a3 _ _ (by decide) (by decide)]) (fun x => by rw [e3 _ _ (by decide) (by decide), a3 _ _ (by decide) (by decide)]) hW, fun c x y1 y2 y3 => by rw [e3 c x (by omega) (by omega), a3 c x (by omega) (by omega)]⟩
    rw [M.1]
    refine a1 (b272_7 ?_)
    rw [m18, if_neg (by omega), if_pos (by omega)]
    exact ⟨_, e1, rfl⟩
  · have hne : ¬ ks = [] := fun h => y (L0.mpr h)
    have hn0 : ¬ ks.length = 0 := fun h => hne (List.eq_nil_of_length_eq_zero h)
    obtain ⟨s2, c1, c2, c3⟩ := l272c (P := P) (a := a) (ae := ae) (ks := ks) (d5 := none) (σ0 := s1) ha (by omega) hks hP a2 (ae - a) s1 (by omega) (fun _ _ _ => rfl) (fun h x h3 h4 => by
      have := (List.getElem?_eq_some_iff.mp h4).1
      rw [← hks] at h3
      omega)
    rw [← hks, show ae - (a + (ae - a)) = 0 by omega, show lgs P ae 0 = 0 from rfl] at c1
    have lb : lgs P ae (ae - a) ≤ 100 := by
      have : ∀ d, lgs P ae d ≤ (d : Int) := by
        intro d
        induction d with
        | zero => exact Int.le_refl 0
        | succ d ih =>
          have m := mxt_b (P := P) (T := tls P ae d) (v := P (ae - (d + 1))) (B := (d : Int)) d (ae - d) 0 (by omega) (by omega) (fun x _ _ => (tls_b d x).2)
          show (if P (ae - (d + 1)) = -1 then lgs P ae d else mxI (lgs P ae d) (mxt P (tls P ae d) (P (ae - (d + 1))) (ae - d) d 0 + 1)) ≤ ((d + 1 : Nat) : Int)
          unfold mxI
          split
          · omega
          · split <;> omega
      have := this (ae - a)
      omega
    have F2 : ∀ c x, ¬ (697 ≤ c ∧ c ≤ 699) → s2 c x = σ c x := fun c x h => by rw [c3 c x (by omega), a3 c x (by omega) (by omega)]
    obtain ⟨s, e1, e2, e3, e4⟩ := l272e (σ0 := s2) (P := P) (T := tls P ae (ae - a)) (a := a) (ae := ae) (b := b) (be := be) (n1 := n1) (ks := ks) (by omega) (by omega) h1 (by rw [F2 _ _ (by decide)]; exact M.2.1) (by rw [F2 _ _ (by decide)]; exact M.2.2.2) (fun h k hk => by
      have hm := List.mem_of_getElem? hk
      rw [hks] at hm
      have := lsP_in _ _ _ hm
      refine ⟨by omega, hP k, ?_⟩
      rw [hPd]
      rcases ptn_c (f := f) (g := g) (a := a) (ae := ae) (b := b) (be := be) (k := k) with z | ⟨j, z1, z2, z3, z4⟩
      · omega
      · omega) (fun i k hk => by rw [c3 _ _ (by decide), c3 _ _ (by decide)]; exact a2 i k hk) c2 hkl ks.length 0 (lgs P ae (ae - a)) a b G L s2 (by omega) lb (by omega) (by omega) (by
      have := lsP_len (P := P) (ae - a) a
      rw [← hks] at this
      omega) (fun _ _ _ _ _ => rfl) (fun x hx => by rw [F2 _ _ (by decide)]; exact hG x hx) (Wt_fr (F2 _ _ (by decide)) (fun x => F2 _ _ (by decide)) hW)
    have es : selF adm P (tls P ae (ae - a)) ae be (ae - a) a (lgs P ae (ae - a)) a b G L = selL adm P (tls P ae (ae - a)) ae be (ks.drop 0) (lgs P ae (ae - a)) a b G L := by
      rw [selF_L (ae - a) a _ _ _ _ _ (fun x h3 h4 h5 => tls_n h3 (by omega) h5), ← hks]
      rfl
    rw [if_neg y, es]
    refine ⟨s, b272 ?_, fun x hx => by rw [if_neg y]; exact e2 x hx, e3, fun c x y1 y2 y3 => by rw [e4 c x (by omega) (by omega) (by omega)]; exact F2 c x (by omega)⟩
    rw [M.1]
    refine a1 (b272_7 ?_)
    rw [m18, if_neg (by omega), if_neg (by omega)]
    refine ⟨by omega, c1 (fun d4 => b272_90 ?_) _⟩
    rw [if_neg (by decide), F2 682 17 (by decide), M.1, F2 682 19 (by decide), M.2.2.1]
    exact e1
end
