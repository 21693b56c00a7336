/-! UNIQUE, the reference's tails and choice. -/
noncomputable section
def mxl (P T : Nat → Int) (v : Int) : List Nat → Int → Int
  | [], acc => acc
  | k :: t, acc => mxl P T v t (if v < P k then mxI acc (T k) else acc)
theorem mxl_mxt {P T T' : Nat → Int} {v : Int} (hv : -1 ≤ v) : ∀ (d k : Nat) (acc : Int), (∀ x, k ≤ x → x < k + d → T' x = T x) → mxt P T v k d acc = mxl P T' v (lsP P k d) acc := by
  intro d
  induction d with
  | zero => intro k acc _; rfl
  | succ d ih =>
    intro k acc hT
    show mxt P T v (k + 1) d (if v < P k then mxI acc (T k) else acc) = mxl P T' v (if P k = -1 then lsP P (k + 1) d else k :: lsP P (k + 1) d) acc
    by_cases y : P k = -1
    · rw [if_pos y, if_neg (by omega)]
      exact ih _ _ (fun x h1 h2 => hT x (by omega) (by omega))
    · rw [if_neg y]
      show _ = mxl P T' v (lsP P (k + 1) d) (if v < P k then mxI acc (T' k) else acc)
      rw [hT k (Nat.le_refl k) (by omega)]
      exact ih _ _ (fun x h1 h2 => hT x (by omega) (by omega))
theorem tls_ge {P : Nat → Int} {ae : Nat} : ∀ (d d' x : Nat), ae ≤ x + d → d ≤ d' → d' ≤ ae → tls P ae d' x = tls P ae d x := by
  intro d d' x hx hd hle
  obtain ⟨e, rfl⟩ : ∃ e, d' = d + e := ⟨d' - d, by omega⟩
  induction e with
  | zero => rfl
  | succ e ih =>
    show (if x = ae - (d + e + 1) then _ else tls P ae (d + e) x) = tls P ae d x
    rw [if_neg (by omega)]
    exact ih (by omega) (by omega)
/-- the tail of a line that is just once in each -/
theorem tls_k {P : Nat → Int} {a ae k : Nat} (ha : a ≤ k) (hk : k < ae) (hp : ¬ P k = -1) (hv : -1 ≤ P k) : tls P ae (ae - a) k = mxl P (tls P ae (ae - a)) (P k) (lsP P (k + 1) (ae - (k + 1))) 0 + 1 := by
  rw [tls_ge (ae - k) (ae - a) k (by omega) (by omega) (by omega), show ae - k = (ae - (k + 1)) + 1 by omega]
  show (if k = ae - (ae - (k + 1) + 1) then (if P (ae - (ae - (k + 1) + 1)) = -1 then (0 : Int) else mxt P (tls P ae (ae - (k + 1))) (P (ae - (ae - (k + 1) + 1))) (ae - (ae - (k + 1))) (ae - (k + 1)) 0 + 1) else tls P ae (ae - (k + 1)) k) = _
  rw [show ae - (ae - (k + 1) + 1) = k by omega, if_pos rfl, if_neg hp, show ae - (ae - (k + 1)) = k + 1 by omega, mxl_mxt (T' := tls P ae (ae - a)) hv _ _ _ (fun x h1 h2 => tls_ge _ _ x (by omega) (by omega) (by omega))]
theorem tls_n {P : Nat → Int} {a ae k : Nat} (ha : a ≤ k) (hk : k < ae) (hp : P k = -1) : tls P ae (ae - a) k = 0 := by
  rw [tls_ge (ae - k) (ae - a) k (by omega) (by omega) (by omega), show ae - k = (ae - (k + 1)) + 1 by omega]
  show (if k = ae - (ae - (k + 1) + 1) then (if P (ae - (ae - (k + 1) + 1)) = -1 then (0 : Int) else mxt P (tls P ae (ae - (k + 1))) (P (ae - (ae - (k + 1) + 1))) (ae - (ae - (k + 1))) (ae - (k + 1)) 0 + 1) else tls P ae (ae - (k + 1)) k) = _
  rw [show ae - (ae - (k + 1) + 1) = k by omega, if_pos rfl, if_pos hp]
theorem lgs_s {P : Nat → Int} {a ae k : Nat} (ha : a ≤ k) (hk : k < ae) (hv : -1 ≤ P k) : lgs P ae (ae - k) = if P k = -1 then lgs P ae (ae - (k + 1)) else mxI (lgs P ae (ae - (k + 1))) (tls P ae (ae - a) k) := by
  by_cases hp : P k = -1
  · rw [if_pos hp, show ae - k = (ae - (k + 1)) + 1 by omega]
    show (if P (ae - (ae - (k + 1) + 1)) = -1 then lgs P ae (ae - (k + 1)) else _) = _
    rw [show ae - (ae - (k + 1) + 1) = k by omega, if_pos hp]
  · rw [if_neg hp, tls_k ha hk hp hv, show ae - k = (ae - (k + 1)) + 1 by omega]
    show (if P (ae - (ae - (k + 1) + 1)) = -1 then lgs P ae (ae - (k + 1)) else mxI (lgs P ae (ae - (k + 1))) (mxt P (tls P ae (ae - (k + 1))) (P (ae - (ae - (k + 1) + 1))) (ae - (ae - (k + 1))) (ae - (k + 1)) 0 + 1)) = _
    rw [show ae - (ae - (k + 1) + 1) = k by omega, if_neg hp, show ae - (ae - (k + 1)) = k + 1 by omega, mxl_mxt (T' := tls P ae (ae - a)) hv _ _ _ (fun x h1 h2 => tls_ge _ _ x (by omega) (by omega) (by omega))]
/-- one best -/
theorem l272b {P T : Nat → Int} {ks : List Nat} {n idx : Nat} {need : Int} {d5 : Option AV} {o : Rs} {σ0 : Sg} (hn : n = ks.length) (h40 : n ≤ 40) (hidx : idx < n) (O : OT σ0 P ks) {k : Nat} (hk : ks[idx]? = some k) (hT : ∀ h x, idx < h → ks[h]? = some x → σ0 699 h = T x) (bT : ∀ x, 0 ≤ T x ∧ T x ≤ 50) : ∀ (d later : Nat) (acc : Int) (σ : Sg), later + d = n → idx < later → 0 ≤ acc → acc ≤ 50 → (∀ c x, ¬ (c = 699 ∧ x = idx) → σ c x = σ0 c x) → σ 699 idx = acc + 1 → ∃ s, (∀ {o : Rs}, C272_106 n need idx n d5 s o → C272_106 n need idx later d5 σ o) ∧ s 699 idx = mxl P T (P k) (ks.drop later) acc + 1 ∧ ∀ c x, ¬ (c = 699 ∧ x = idx) → s c x = σ0 c x := by
  intro d
  induction d with
  | zero =>
    intro later acc σ hd hl h0 h1 hF hv
    refine ⟨σ, fun {o} hh => ?_, ?_, hF⟩
    · rw [show later = n by omega]
      exact hh
    · rw [List.drop_eq_nil_of_le (by omega)]
      exact hv
  | succ d ih =>
    intro later acc σ hd hl h0 h1 hF hv
    have hlt : later < ks.length := by omega
    obtain ⟨x, hx⟩ : ∃ x, x = ks[later] := ⟨_, rfl⟩
    have hx2 : ks[later]? = some x := by rw [hx]; exact List.getElem?_eq_getElem hlt
    obtain ⟨o1, o2⟩ := O later x hx2
    obtain ⟨p1, p2⟩ := O idx k hk
    have t1 := hT later x hl hx2
    have bt := bT x
    have e698 : σ 698 later = P x := by rw [hF _ _ (by omega)]; exact o2
    have e698' : σ 698 idx = P k := by rw [hF _ _ (by omega)]; exact p2
    have e699 : σ 699 later = T x := by rw [hF _ _ (by omega)]; exact t1
    have bd : ks.drop later = x :: ks.drop (later + 1) := by rw [List.drop_eq_getElem_cons hlt, ← hx]
    rw [bd]
    show ∃ s : Sg, _ ∧ s 699 idx = mxl P T (P k) (ks.drop (later + 1)) (if P k < P x then mxI acc (T x) else acc) + 1 ∧ _
    obtain ⟨acc', ha'⟩ : ∃ acc', acc' = if P k < P x then mxI acc (T x) else acc := ⟨_, rfl⟩
    have hb' : 0 ≤ acc' ∧ acc' ≤ 50 := by
      rw [ha']
      unfold mxI
      split
      · split <;> omega
      · omega
    rw [← ha']
    obtain ⟨s, a1, a2, a3⟩ := ih (later + 1) acc' (upS σ 699 idx (acc' + 1)) (by omega) (by omega) hb'.1 hb'.2 (fun c x hc => by
      unfold upS
      rw [if_neg hc]
      exact hF c x hc) up_s
    refine ⟨s, fun {o} hh => b272_106 ?_, a2, a3⟩
    have z : ∀ v, v = acc' + 1 → C272_167 n need idx later d5 idx v σ o := by
      intro v hv'
      refine b272_167 ⟨by omega, by omega, ?_⟩
      rw [hv', tn, show (later : Int) + 1 = ((later + 1 : Nat) : Int) by omega]
      exact a1 hh
    rw [if_pos (by omega), tn, tn, e698, e698', e699, hv]
    refine ⟨by omega, by omega, ?_⟩
    by_cases y : P k < P x
    · rw [if_pos y] at ha' ⊢
      refine ⟨by omega, by omega, ?_⟩
      unfold mxI at ha'
      by_cases y2 : acc + 1 ≤ T x
      · rw [if_pos y2]
        rw [if_pos (by omega)] at ha'
        exact ⟨by omega, by omega, z _ (by omega)⟩
      · rw [if_neg y2]
        rw [if_neg (by omega)] at ha'
        refine b272_161 ⟨by omega, ?_⟩
        rw [tn, hv]
        exact z _ (by omega)
    · rw [if_neg y] at ha' ⊢
      refine b272_161 ⟨by omega, ?_⟩
      rw [tn, hv]
      exact z _ (by omega)
/-- all the bests, and the longest -/
theorem l272c {P : Nat → Int} {a ae : Nat} {ks : List Nat} {d5 : Option AV} {σ0 : Sg} (ha : a ≤ ae) (h40 : ae ≤ 40) (hks : ks = lsP P a (ae - a)) (hP : ∀ k, -1 ≤ P k) (O : OT σ0 P ks) : ∀ (d : Nat) (σ : Sg), a + d ≤ ae → (∀ c x, ¬ c = 699 → σ c x = σ0 c x) → (∀ h x, (lsP P a d).length ≤ h → ks[h]? = some x → σ 699 h = tls P ae (ae - a) x) → ∃ s, (∀ {o : Rs}, (∀ d4 : Option AV, C272_90 (ks.length : Nat) (lgs P ae (ae - a)) (-1) d4 d5 s o) → ∀ d4 : Option AV, C272_90 (ks.length : Nat) (lgs P ae (ae - (a + d))) (((lsP P a d).length : Nat) - 1) d4 d5 σ o) ∧ (∀ h x, ks[h]? = some x → s 699 h = tls P ae (ae - a) x) ∧ ∀ c x, ¬ c = 699 → s c x = σ0 c x := by
  intro d
  induction d with
  | zero =>
    intro σ hd hF hv
    refine ⟨σ, fun {o} hh => hh, fun h x hx => hv h x (Nat.zero_le h) hx, hF⟩
  | succ d ih =>
    intro σ hd hF hv
    have e1 : lsP P a (d + 1) = lsP P a d ++ lsP P (a + d) 1 := lsP_app d a 1
    have e2 : lsP P (a + d) 1 = if P (a + d) = -1 then [] else [a + d] := rfl
    have lg := lgs_s (P := P) (a := a) (ae := ae) (k := a + d) (by omega) (by omega) (hP _)
    rw [show a + (d + 1) = a + d + 1 by omega]
    by_cases y : P (a + d) = -1
    · rw [if_pos y] at e2 lg
      rw [e2, List.append_nil] at e1
      rw [e1] at hv ⊢
      rw [← lg]
      exact ih σ (by omega) hF hv
    · rw [if_neg y] at e2 lg
      rw [e2] at e1
      have hl : (lsP P a (d + 1)).length = (lsP P a d).length + 1 := by
        rw [e1, List.length_append]
        rfl
      obtain ⟨idx, hidx⟩ : ∃ idx, idx = (lsP P a d).length := ⟨_, rfl⟩
      rw [← hidx] at hl ih
      rw [hl] at hv
      have hspl : ks = lsP P a d ++ (a + d) :: lsP P (a + d + 1) (ae - (a + d + 1)) := by
        rw [hks, show ae - a = d + (ae - (a + d)) by omega, lsP_app d a, show ae - (a + d) = (ae - (a + d + 1)) + 1 by omega]
        show lsP P a d ++ (if P (a + d) = -1 then lsP P (a + d + 1) (ae - (a + d + 1)) else (a + d) :: lsP P (a + d + 1) (ae - (a + d + 1))) = _
        rw [if_neg y]
      have hk : ks[idx]? = some (a + d) := by
        rw [hspl, List.getElem?_append_right (by omega), hidx, Nat.sub_self]
        rfl
      have hdr : ks.drop (idx + 1) = lsP P (a + d + 1) (ae - (a + d + 1)) := by
        rw [hspl, List.drop_append, hidx]
        rw [List.drop_eq_nil_of_le (by omega), show (lsP P a d).length + 1 - (lsP P a d).length = 1 by omega]
        rfl
      have hlt := (List.getElem?_eq_some_iff.mp hk).1
      have hlen : ks.length ≤ 40 := by
        have := lsP_len (P := P) (ae - a) a
        rw [← hks] at this
        omega
      have bT : ∀ x, 0 ≤ tls P ae (ae - a) x ∧ tls P ae (ae - a) x ≤ 50 := fun x => by
        have := tls_b (P := P) (ae := ae) (ae - a) x
        omega
      have O' : OT (upS σ 699 idx 1) P ks := fun i k hi => by
        rw [up_a (by decide), up_a (by decide), hF _ _ (by decide), hF _ _ (by decide)]
        exact O i k hi
      obtain ⟨s1, a1, a2, a3⟩ := l272b (P := P) (T := tls P ae (ae - a)) (ks := ks) (n := ks.length) (idx := idx) (need := lgs P ae (ae - (a + d + 1))) (d5 := d5) (o := rV σ) (σ0 := upS σ 699 idx 1) rfl hlen hlt O' hk (fun h x h1 h2 => by
        rw [up_k (by omega)]
        exact hv h x (by omega) h2) bT (ks.length - (idx + 1)) (idx + 1) 0 (upS σ 699 idx 1) (by omega) (by omega) (by omega) (by omega) (fun _ _ _ => rfl) (by rw [up_s]; rfl)
      rw [hdr] at a2
      have tk := tls_k (P := P) (a := a) (ae := ae) (k := a + d) (by omega) (by omega) y (hP _)
      rw [← tk] at a2
      obtain ⟨s, c1, c2, c3⟩ := ih s1 (by omega) (fun c x hc => by rw [a3 c x (by omega), up_a hc]; exact hF c x hc) (fun h x h1 h2 => by
        by_cases q : h = idx
        · rw [q] at h2 ⊢
          rw [hk] at h2
          cases h2
          exact a2
        · rw [a3 _ _ (by omega), up_k q]
          exact hv h x (by omega) h2)
      refine ⟨s, fun {o} hh d4 => b272_90 ?_, c2, c3⟩
      rw [hl, show ((idx + 1 : Nat) : Int) - 1 = (idx : Int) by omega, if_pos (by omega), tn, show (idx : Int) + 1 = ((idx + 1 : Nat) : Int) by omega]
      refine ⟨by omega, by omega, a1 (b272_106 ?_)⟩
      have bt := bT (a + d)
      rw [if_neg (Int.lt_irrefl _), tn, a2]
      refine ⟨by omega, fun _ => by omega, b272_194 ⟨by omega, ?_⟩⟩
      have z := c1 hh (some (vI ((ks.length : Nat) : Int)))
      rw [lg] at z
      unfold mxI at z
      rw [show (idx : Int) + (-1) = (idx : Int) - 1 by omega]
      exact z
/-- the choice, over the lines that are just once in each -/
def selL (ad : List St → St → List St) (P T : Nat → Int) (ae be : Nat) : List Nat → Int → Nat → Nat → (Nat → Int) → List St → (Nat → Int) × List St
  | [], _, i, j, G, L => (G, ad L (i, ae, j, be))
  | k :: t, w, i, j, G, L => if 0 < w ∧ T k = w ∧ (j : Int) ≤ P k then selL ad P T ae be t (w - 1) (k + 1) ((P k).toNat + 1) (updG G k (P k)) (ad L (i, k, j, (P k).toNat)) else selL ad P T ae be t w i j G L
theorem selL_0 {ad : List St → St → List St} {P T : Nat → Int} {ae be : Nat} {w : Int} (hw : ¬ 0 < w) : ∀ (ks : List Nat) (i j : Nat) (G : Nat → Int) (L : List St), selL ad P T ae be ks w i j G L = (G, ad L (i, ae, j, be)) := by
  intro ks
  induction ks with
  | nil => intro i j G L; rfl
  | cons k t ih =>
    intro i j G L
    show (if 0 < w ∧ T k = w ∧ (j : Int) ≤ P k then _ else selL ad P T ae be t w i j G L) = _
    rw [if_neg (fun h => hw h.1)]
    exact ih i j G L
theorem selF_L {ad : List St → St → List St} {P T : Nat → Int} {ae be : Nat} : ∀ (d k : Nat) (w : Int) (i j : Nat) (G : Nat → Int) (L : List St), (∀ x, k ≤ x → x < k + d → P x = -1 → T x = 0) → selF ad P T ae be d k w i j G L = selL ad P T ae be (lsP P k d) w i j G L := by
  intro d
  induction d with
  | zero => intro k w i j G L _; rfl
  | succ d ih =>
    intro k w i j G L hT
    rw [selF_s]
    show _ = selL ad P T ae be (if P k = -1 then lsP P (k + 1) d else k :: lsP P (k + 1) d) w i j G L
    have hT' : ∀ x, k + 1 ≤ x → x < k + 1 + d → P x = -1 → T x = 0 := fun x h1 h2 => hT x (by omega) (by omega)
    by_cases y0 : 0 < w
    · rw [if_pos y0]
      by_cases hp : P k = -1
      · rw [if_pos hp, if_neg (fun e => by have := hT k (Nat.le_refl k) (by omega) hp; omega)]
        exact ih _ _ _ _ _ _ hT'
      · rw [if_neg hp]
        show _ = if 0 < w ∧ T k = w ∧ (j : Int) ≤ P k then selL ad P T ae be (lsP P (k + 1) d) (w - 1) (k + 1) ((P k).toNat + 1) (updG G k (P k)) (ad L (i, k, j, (P k).toNat)) else selL ad P T ae be (lsP P (k + 1) d) w i j G L
        by_cases y : T k = w ∧ (j : Int) ≤ P k
        · rw [if_pos y, if_pos ⟨y0, y⟩]
          exact ih _ _ _ _ _ _ hT'
        · rw [if_neg y, if_neg (fun e => y e.2)]
          exact ih _ _ _ _ _ _ hT'
    · rw [if_neg y0, selL_0 y0]
end
