/-! UNIQUE, the reference's tails and choice. -/
noncomputable section
def mxl (P T : Nat → Int) (v : Int) : List Nat → Int → Int
  | [], acc => acc
  | k :: t, acc => mxl P T v t (if v < P k then mxI acc (T k) else acc)
theorem mxl_mxt {P T T' : Nat → Int} {v : Int} (hv : -1 ≤ v) : ∀ (d k : Nat) (acc : Int), (∀ x, k ≤ x → x < k + d → T' x = T x) → mxt P T v k d acc = mxl P T' v (lsP P k d) acc := by
  intro d
  induction d with
  | zero => intro k acc _; rfl
  | succ d ih =>
    intro k acc hT
    show mxt P T v (k + 1) d (if v < P k then mxI acc (T k) else acc) = mxl P T' v (if P k = -1 then lsP P (k + 1) d else k :: lsP P (k + 1) d) acc
    by_cases y : P k = -1
    · rw [if_pos y, if_neg (by omega)]
      exact ih _ _ (fun x h1 h2 => hT x (by omega) (by omega))
    · rw [if_neg y]
      show _ = mxl P T' v (lsP P (k + 1) d) (if v < P k then mxI acc (T' k) else acc)
      rw [hT k (Nat.le_refl k) (by omega)]
      exact ih _ _ (fun x h1 h2 => hT x (by omega) (by omega))
theorem tls_ge {P : Nat → Int} {ae : Nat} : ∀ (d d' x : Nat), ae ≤ x + d → d ≤ d' → d' ≤ ae → tls P ae d' x = tls P ae d x := by
  intro d d' x hx hd hle
  obtain ⟨e, rfl⟩ : ∃ e, d' = d + e := ⟨d' - d, by omega⟩
  induction e with
  | zero => rfl
  | succ e ih =>
    show (if x = ae - (d + e + 1) then _ else tls P ae (d + e) x) = tls P ae d x
    rw [if_neg (by omega)]
    exact ih (by omega) (by omega)
/-- the tail of a line that is just once in each -/
theorem tls_k {P : Nat → Int} {a ae k : Nat} (ha : a ≤ k) (hk : k < ae) (hp : ¬ P k = -1) (hv : -1 ≤ P k) : tls P ae (ae - a) k = mxl P (tls P ae (ae - a)) (P k) (lsP P (k + 1) (ae - (k + 1))) 0 + 1 := by
  rw [tls_ge (ae - k) (ae - a) k (by omega) (by omega) (by omega), show ae - k = (ae - (k + 1)) + 1 by omega]
  show (if k = ae - (ae - (k + 1) + 1) then (if P (ae - (ae - (k + 1) + 1)) = -1 then (0 : Int) else mxt P (tls P ae (ae - (k + 1))) (P (ae - (ae - (k + 1) + 1))) (ae - (ae - (k + 1))) (ae - (k + 1)) 0 + 1) else tls P ae (ae - (k + 1)) k) = _
  rw [show ae - (ae - (k + 1) + 1) = k by omega, if_pos rfl, if_neg hp, show ae - (ae - (k + 1)) = k + 1 by omega, mxl_mxt (T' := tls P ae (ae - a)) hv _ _ _ (fun x h1 h2 => tls_ge _ _ x (by omega) (by omega) (by omega))]
theorem tls_n {P : Nat → Int} {a ae k : Nat} (ha : a ≤ k) (hk : k < ae) (hp : P k = -1) : tls P ae (ae - a) k = 0 := by
  rw [tls_ge (ae - k) (ae - a) k (by omega) (by omega) (by omega), show ae - k = (ae - (k + 1)) + 1 by omega]
  show (if k = ae - (ae - (k + 1) + 1) then (if P (ae - (ae - (k + 1) + 1)) = -1 then (0 : Int) else mxt P (tls P ae (ae - (k + 1))) (P (ae - (ae - (k + 1) + 1))) (ae - (ae - (k + 1))) (ae - (k + 1)) 0 + 1) else tls P ae (ae - (k + 1)) k) = _
  rw [show ae - (ae - (k + 1) + 1) = k by omega, if_pos rfl, if_pos hp]
theorem lgs_s {P : Nat → Int} {a ae k : Nat} (ha : a ≤ k) (hk : k < ae) (hv : -1 ≤ P k) : lgs P ae (ae - k) = if P k = -1 then lgs P ae (ae - (k + 1)) else mxI (lgs P ae (ae - (k + 1))) (tls P ae (ae - a) k) := by
  by_cases hp : P k = -1
  · rw [if_pos hp, show ae - k = (ae - (k + 1)) + 1 by omega]
    show (if P (ae - (ae - (k + 1) + 1)) = -1 then lgs P ae (ae - (k + 1)) else _) = _
    rw [show ae - (ae - (k + 1) + 1) = k by omega, if_pos hp]
  · rw [if_neg hp, tls_k ha hk hp hv, show ae - k = (ae - (k + 1)) + 1 by omega]
    show (if P (ae - (ae - (k + 1) + 1)) = -1 then lgs P ae (ae - (k + 1)) else mxI (lgs P ae (ae - (k + 1))) (mxt P (tls P ae (ae - (k + 1))) (P (ae - (ae - (k + 1) + 1))) (ae - (ae - (k + 1))) (ae - (k + 1)) 0 + 1)) = _
    rw [show ae - (ae - (k + 1) + 1) = k by omega, if_neg hp, show ae - (ae - (k + 1)) = k + 1 by omega, mxl_mxt (T' := tls P ae (ae - a)) hv _ _ _ (fun x h1 h2 => tls_ge _ _ x (by omega) (by omega) (by omega))]
/-- one best -/
theorem l272b {P T : Nat → Int} {ks : List Nat} {n idx : Nat} {need : Int} {d5 : Option AV} {o : Rs} {σ0 : Sg} (hn : n = ks.length) (h40 : n ≤ 40) (hidx : idx < n) (O : OT σ0 P ks) {k : Nat} (hk : ks[idx]? = some k) (hT : ∀ h x, idx < h → ks[h]? = some x → σ0 699 h = T x) (bT : ∀ x, 0 ≤ T x ∧ T x ≤ 50) : ∀ (d later : Nat) (acc : Int) (σ : Sg), later + d = n → idx < later → 0 ≤ acc → acc ≤ 50 → (∀ c x, ¬ (c = 699 ∧ x = idx) → σ c x = σ0 c x) → σ 699 idx = acc + 1 → ∃ s, (∀ {o : Rs}, C272_106 n need idx n d5 s o → C272_106 n need idx later d5 σ o) ∧ s 699 idx = mxl P T (P k) (ks.drop later) acc + 1 ∧ ∀ c x, ¬ (c = 699 ∧ x = idx) → s c x = σ0 c x := by
  intro d
  induction d with
  | zero =>
    intro later acc σ hd hl h0 h1 hF hv
    refine ⟨σ, fun {o} hh => ?_, ?_, hF⟩
    · rw [show later = n by omega]
      exact hh
    · rw [List.drop_eq_nil_of_le (by omega)]
      exact hv
  | succ d ih =>
    intro later acc σ hd hl h0 h1 hF hv
    have hlt : later < ks.length := by omega
    obtain ⟨x, hx⟩ : ∃ x, x = ks[later] := ⟨_, rfl⟩
    have hx2 : ks[later]? = some x := by rw [hx]; exact List.getElem?_eq_getElem hlt
    obtain ⟨o1, o2⟩ := O later x hx2
    obtain ⟨p1, p2⟩ := O idx k hk
    have t1 := hT later x hl hx2
    have bt := bT x
    have e698 : σ 698 later = P x := by rw [hF _ _ (by omega)]; exact o2
    have e698' : σ 698 idx = P k := by rw [hF _ _ (by omega)]; exact p2
    have e699 : σ 699 later = T x := by rw [hF _ _ (by omega)]; exact t1
    have bd : ks.drop later = x :: ks.drop (later + 1) := by rw [List.drop_eq_getElem_cons hlt, ← hx]
    rw [bd]
    show ∃ s, _ ∧ s 699 idx = mxl P T (P k) (ks.drop (later + 1)) (if P k < P x then mxI acc (T x) else acc) + 1 ∧ _
    obtain ⟨acc', ha'⟩ : ∃ acc', acc' = if P k < P x then mxI acc (T x) else acc := ⟨_, rfl⟩
    have hb' : 0 ≤ acc' ∧ acc' ≤ 50 := by
      rw [ha']
      unfold mxI
      split
      · split <;> omega
      · omega
    rw [← ha']
    obtain ⟨s, a1, a2, a3⟩ := ih (later + 1) acc' (upS σ 699 idx (acc' + 1)) (by omega) (by omega) hb'.1 hb'.2 (fun c x hc => by
      unfold upS
      rw [if_neg hc]
      exact hF c x hc) up_s
    refine ⟨s, fun {o} hh => b272_106 ?_, a2, a3⟩
    have z : ∀ v, v = acc' + 1 → C272_167 n need idx later d5 idx v σ o := by
      intro v hv'
      refine b272_167 ⟨by omega, by omega, ?_⟩
      rw [hv', tn, show (later : Int) + 1 = ((later + 1 : Nat) : Int) by omega]
      exact a1 hh
    rw [if_pos (by omega), tn, tn, e698, e698', e699, hv]
    refine ⟨by omega, by omega, ?_⟩
    by_cases y : P k < P x
    · rw [if_pos y] at ha' ⊢
      refine ⟨by omega, by omega, ?_⟩
      unfold mxI at ha'
      by_cases y2 : acc + 1 ≤ T x
      · rw [if_pos y2]
        rw [if_pos (by omega)] at ha'
        exact ⟨by omega, by omega, z _ (by omega)⟩
      · rw [if_neg y2]
        rw [if_neg (by omega)] at ha'
        refine b272_161 ⟨by omega, ?_⟩
        rw [tn, hv]
        exact z _ (by omega)
    · rw [if_neg y] at ha' ⊢
      refine b272_161 ⟨by omega, ?_⟩
      rw [tn, hv]
      exact z _ (by omega)
end
