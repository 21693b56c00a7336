/-! UNIQUE, the reference's side. -/
noncomputable section
/-- the stretches that wait -/
def Wt (σ : Sg) (L : List St) : Prop := σ 682 22 = (L.length : Nat) ∧ ∀ h : Nat, ∀ q, L[h]? = some q → σ 696 (4 * h) = (q.1 : Nat) ∧ σ 696 (4 * h + 1) = (q.2.1 : Nat) ∧ σ 696 (4 * h + 2) = (q.2.2.1 : Nat) ∧ σ 696 (4 * h + 3) = (q.2.2.2 : Nat)
theorem Wt_fr {σ s : Sg} {L : List St} (h1 : s 682 22 = σ 682 22) (h2 : ∀ x, s 696 x = σ 696 x) (H : Wt σ L) : Wt s L := ⟨by rw [h1]; exact H.1, fun h q hq => by rw [h2, h2, h2, h2]; exact H.2 h q hq⟩
theorem d267 {σ : Sg} {L : List St} {a k b j : Nat} (H : Wt σ L) (hl : L.length < 128) : ∃ s, Dd 267 [vA 682, vI a, vI k, vI b, vI j] σ (rV s) ∧ Wt s (L ++ [(a, k, b, j)]) ∧ ∀ c x, ¬ c = 696 → ¬ (c = 682 ∧ x = 22) → s c x = σ c x := by
  obtain ⟨hw, hv'⟩ := H
  obtain ⟨n, hn⟩ : ∃ n, n = L.length := ⟨_, rfl⟩
  rw [← hn] at hw hl
  have T0 : (4 * ((n : Nat) : Int)).toNat = 4 * n := by omega
  have T1 : ((4 * ((n : Nat) : Int)) + 1).toNat = 4 * n + 1 := by omega
  have T2 : ((4 * ((n : Nat) : Int)) + 2).toNat = 4 * n + 2 := by omega
  have T3 : ((4 * ((n : Nat) : Int)) + 3).toNat = 4 * n + 3 := by omega
  refine ⟨upS (upS (upS (upS (upS σ 696 (4 * n) a) 696 (4 * n + 1) k) 696 (4 * n + 2) b) 696 (4 * n + 3) j) 682 22 ((n : Int) + 1), b267 ?_, ⟨?_, fun h q hq => ?_⟩, fun c x h1 h2 => ?_⟩
  · simp only [up_a (show ¬ (682 : Nat) = 696 by decide), hw, T0, T1, T2, T3]
    refine ⟨by omega, by omega, by omega, by omega, by omega, by omega, by omega, by omega, by omega, by omega, by omega, by omega, ?_⟩
    first
      | rfl
      | trivial
  · rw [up_s, List.length_append, ← hn]
    show (n : Int) + 1 = ((n + 1 : Nat) : Int)
    omega
  · by_cases y : h < n
    · rw [List.getElem?_append_left (by omega)] at hq
      have z := hv' h q hq
      rw [up_a (by decide), up_k (by omega), up_k (by omega), up_k (by omega), up_k (by omega), up_a (by decide), up_k (by omega), up_k (by omega), up_k (by omega), up_k (by omega), up_a (by decide), up_k (by omega), up_k (by omega), up_k (by omega), up_k (by omega), up_a (by decide), up_k (by omega), up_k (by omega), up_k (by omega), up_k (by omega)]
      exact z
    · have h2 := (List.getElem?_eq_some_iff.mp hq).1
      rw [List.length_append, ← hn] at h2
      have e : h = n := by
        have : h < n + 1 := h2
        omega
      subst e
      rw [List.getElem?_append_right (by omega), show h - L.length = 0 by omega] at hq
      have hq : (a, k, b, j) = q := by simpa using hq
      rw [← hq]
      refine ⟨?_, ?_, ?_, ?_⟩
      · rw [up_a (by decide), up_k (by omega), up_k (by omega), up_k (by omega), up_s]
      · rw [up_a (by decide), up_k (by omega), up_k (by omega), up_s]
      · rw [up_a (by decide), up_k (by omega), up_s]
      · rw [up_a (by decide), up_s]
  · have : upS (upS (upS (upS (upS σ 696 (4 * n) a) 696 (4 * n + 1) k) 696 (4 * n + 2) b) 696 (4 * n + 3) j) 682 22 ((n : Int) + 1) c x = upS (upS (upS (upS σ 696 (4 * n) a) 696 (4 * n + 1) k) 696 (4 * n + 2) b) 696 (4 * n + 3) j c x := by
      unfold upS
      rw [if_neg h2]
    rw [this, up_a h1, up_a h1, up_a h1, up_a h1]
/-- the lines that are just once in each -/
def lsP (P : Nat → Int) : Nat → Nat → List Nat
  | _, 0 => []
  | k, d + 1 => if P k = -1 then lsP P (k + 1) d else k :: lsP P (k + 1) d
theorem lsP_in {P : Nat → Int} : ∀ (d k x : Nat), x ∈ lsP P k d → k ≤ x ∧ x < k + d ∧ ¬ P x = -1 := by
  intro d
  induction d with
  | zero => intro k x h; cases h
  | succ d ih =>
    intro k x h
    have h' : x ∈ (if P k = -1 then lsP P (k + 1) d else k :: lsP P (k + 1) d) := h
    by_cases y : P k = -1
    · rw [if_pos y] at h'
      have := ih _ _ h'
      exact ⟨by omega, by omega, this.2.2⟩
    · rw [if_neg y] at h'
      rcases List.mem_cons.mp h' with e | e
      · rw [e]; exact ⟨Nat.le_refl k, by omega, y⟩
      · have := ih _ _ e
        exact ⟨by omega, by omega, this.2.2⟩
theorem lsP_len {P : Nat → Int} : ∀ (d k : Nat), (lsP P k d).length ≤ d := by
  intro d
  induction d with
  | zero => intro k; exact Nat.le_refl 0
  | succ d ih =>
    intro k
    show (if P k = -1 then lsP P (k + 1) d else k :: lsP P (k + 1) d).length ≤ d + 1
    have := ih (k + 1)
    split
    · omega
    · rw [List.length_cons]; omega
theorem lsP_app {P : Nat → Int} : ∀ (d k e : Nat), lsP P k (d + e) = lsP P k d ++ lsP P (k + d) e := by
  intro d
  induction d with
  | zero => intro k e; rw [Nat.zero_add, Nat.add_zero]; rfl
  | succ d ih =>
    intro k e
    rw [show d + 1 + e = (d + e) + 1 by omega]
    show (if P k = -1 then lsP P (k + 1) (d + e) else k :: lsP P (k + 1) (d + e)) = (if P k = -1 then lsP P (k + 1) d else k :: lsP P (k + 1) d) ++ lsP P (k + (d + 1)) e
    rw [ih, show k + 1 + d = k + (d + 1) by omega]
    split <;> rfl
/-- the reference's rows of them -/
def OT (σ : Sg) (P : Nat → Int) (ks : List Nat) : Prop := ∀ i k, ks[i]? = some k → σ 697 i = (k : Nat) ∧ σ 698 i = P k
theorem ptn_i {f g : Nat → Int} {a ae b be k : Nat} : ptn f g a ae b be k = -1 ↔ ¬ (cnt f (f k) a (ae - a) = 1 ∧ cnt g (f k) b (be - b) = 1) := by
  refine ⟨fun h y => ?_, fun y => by unfold ptn; rw [if_neg y]⟩
  unfold ptn at h
  rw [if_pos y] at h
  have h0 := (cnt_0 (f := g) (x := f k) (be - b) b).mp (by omega)
  obtain ⟨j, e1, e2, e3, e4⟩ := fnd_in _ _ h0
  omega
theorem l272a {σ0 : Sg} {f g : Nat → Int} {n1 n2 a ae b be : Nat} {d3 d4 d5 : Option AV} (R : MRw σ0 f g n1 n2) (M : MS σ0 a ae b be) (ha : a ≤ ae) (hb : b ≤ be) (h1 : ae ≤ n1) (h2 : be ≤ n2) : ∀ (d k : Nat) (ks : List Nat) (σ : Sg), k + d = ae → a ≤ k → ks.length ≤ k - a → (∀ c x, ¬ c = 697 → ¬ c = 698 → σ c x = σ0 c x) → OT σ (ptn f g a ae b be) ks → ∃ s, (∀ {o : Rs}, C272_7 ((ks ++ lsP (ptn f g a ae b be) k d).length : Nat) ae d3 d4 d5 s o → C272_7 (ks.length : Nat) k d3 d4 d5 σ o) ∧ OT s (ptn f g a ae b be) (ks ++ lsP (ptn f g a ae b be) k d) ∧ ∀ c x, ¬ c = 697 → ¬ c = 698 → s c x = σ0 c x := by
  have n40 := R.1
  intro d
  induction d with
  | zero =>
    intro k ks σ hk hak hks hF hO
    have e : lsP (ptn f g a ae b be) k 0 = [] := rfl
    rw [e, List.append_nil]
    refine ⟨σ, fun {o} hh => ?_, hO, hF⟩
    rw [show k = ae by omega]
    exact hh
  | succ d ih =>
    intro k ks σ hk hak hks hF hO
    have R' : ∀ {σ1 : Sg}, (∀ c x, ¬ c = 697 → ¬ c = 698 → σ1 c x = σ0 c x) → MRw σ1 f g n1 n2 ∧ MS σ1 a ae b be := fun hF1 => ⟨⟨R.1, R.2.1, fun i hi => by rw [hF1 _ _ (by decide) (by decide)]; exact R.2.2.1 i hi, fun i hi => by rw [hF1 _ _ (by decide) (by decide)]; exact R.2.2.2 i hi⟩, ⟨by rw [hF1 _ _ (by decide) (by decide)]; exact M.1, by rw [hF1 _ _ (by decide) (by decide)]; exact M.2.1, by rw [hF1 _ _ (by decide) (by decide)]; exact M.2.2.1, by rw [hF1 _ _ (by decide) (by decide)]; exact M.2.2.2⟩⟩
    obtain ⟨R1, M1⟩ := R' hF
    have fk : σ 691 k = f k := R1.2.2.1 k (by omega)
    have q1 := d269 (x := f k) R1 M1 ha h1
    have q2 := d270 (x := f k) R1 M1 hb h2
    have un : lsP (ptn f g a ae b be) k (d + 1) = if ptn f g a ae b be k = -1 then lsP (ptn f g a ae b be) (k + 1) d else k :: lsP (ptn f g a ae b be) (k + 1) d := rfl
    by_cases y : cnt f (f k) a (ae - a) = 1 ∧ cnt g (f k) b (be - b) = 1
    · have hp : ¬ ptn f g a ae b be k = -1 := fun e => ptn_i.mp e y
      have ep : ptn f g a ae b be k = fnd g (f k) b (be - b) := by unfold ptn; rw [if_pos y]
      rw [un, if_neg hp]
      have hF1 : ∀ c x, ¬ c = 697 → ¬ c = 698 → upS σ 697 ks.length (k : Int) c x = σ0 c x := fun c x y1 y2 => by rw [up_a y1]; exact hF c x y1 y2
      obtain ⟨R2, M2⟩ := R' hF1
      have q3 := d271 (x := f k) R2 M2 hb h2
      rw [← ep] at q3
      obtain ⟨s, a1, a2, a3⟩ := ih (k + 1) (ks ++ [k]) (upS (upS σ 697 ks.length (k : Int)) 698 ks.length (ptn f g a ae b be k)) (by omega) (by omega) (by rw [List.length_append]; show ks.length + 1 ≤ _; omega) (fun c x y1 y2 => by rw [up_a y2, up_a y1]; exact hF c x y1 y2) (fun i x hi => by
        by_cases q : i < ks.length
        · rw [List.getElem?_append_left q] at hi
          rw [up_a (by decide), up_k (by omega), up_k (by omega), up_a (by decide)]
          exact hO i x hi
        · have h3 := (List.getElem?_eq_some_iff.mp hi).1
          rw [List.length_append] at h3
          have h4 : i < ks.length + 1 := h3
          have e : i = ks.length := by omega
          rw [e, List.getElem?_append_right (Nat.le_refl _), Nat.sub_self] at hi
          have hi : k = x := by simpa using hi
          rw [e, ← hi, up_a (by decide), up_s, up_s]
          exact ⟨rfl, rfl⟩)
      rw [List.append_assoc] at a1 a2
      refine ⟨s, fun {o} hh => b272_7 ?_, a2, a3⟩
      have z := a1 hh
      rw [List.length_append] at z
      have z : C272_7 ((ks.length + 1 : Nat) : Int) ((k + 1 : Nat) : Int) d3 d4 d5 (upS (upS σ 697 ks.length (k : Int)) 698 ks.length (ptn f g a ae b be k)) o := z
      rw [M1.2.1, if_pos (by omega), tn, fk]
      refine ⟨by omega, _, _, q1, ?_⟩
      rw [if_pos y.1, tn, fk]
      refine ⟨by omega, _, _, q2, ?_⟩
      rw [if_pos y.2]
      have e691 : upS σ 697 ks.length (k : Int) 691 k = f k := by rw [up_a (by decide)]; exact fk
      rw [e691]
      refine ⟨by omega, by omega, _, _, q3, by omega, by omega, b272_69 ⟨by omega, ?_⟩⟩
      rw [show (k : Int) + 1 = ((k + 1 : Nat) : Int) by omega, show ((ks.length : Nat) : Int) + 1 = ((ks.length + 1 : Nat) : Int) by omega]
      exact z
    · have hp : ptn f g a ae b be k = -1 := ptn_i.mpr y
      rw [un, if_pos hp]
      obtain ⟨s, a1, a2, a3⟩ := ih (k + 1) ks σ (by omega) (by omega) (by omega) hF hO
      refine ⟨s, fun {o} hh => b272_7 ?_, a2, a3⟩
      have z69 : C272_69 (ks.length : Nat) k d3 d4 d5 σ o := b272_69 ⟨by omega, by
        rw [show (k : Int) + 1 = ((k + 1 : Nat) : Int) by omega]
        exact a1 hh⟩
      rw [M1.2.1, if_pos (by omega), tn, fk]
      refine ⟨by omega, _, _, q1, ?_⟩
      by_cases y1 : cnt f (f k) a (ae - a) = 1
      · rw [if_pos y1, tn, fk]
        refine ⟨by omega, _, _, q2, ?_⟩
        rw [if_neg (fun e => y ⟨y1, e⟩)]
        exact z69
      · rw [if_neg y1]
        exact z69
end
