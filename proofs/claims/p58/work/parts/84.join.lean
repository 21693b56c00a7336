/-! join. -/
noncomputable section
def mt (p : Nat → Bool) (n : Nat) : Nat := ((List.range n).takeWhile p).length
theorem mt_le {p : Nat → Bool} {n : Nat} : mt p n ≤ n := by
  have := tw_len (l := List.range n) (p := p)
  rw [List.length_range] at this
  exact this
theorem mt_m {p : Nat → Bool} {n d : Nat} (h : d < mt p n) : p d = true := by
  have hl := mt_le (p := p) (n := n)
  obtain ⟨x, g1, g2⟩ := tw_a (p := p) (l := List.range n) d h
  rw [List.getElem?_range (by omega)] at g1
  cases g1
  exact g2
theorem mt_n {p : Nat → Bool} {n : Nat} (h : mt p n < n) : p (mt p n) = false := by
  obtain ⟨x, g1, g2⟩ := tw_b (p := p) (l := List.range n) (by rw [List.length_range]; exact h)
  have h2 : ((List.range n).takeWhile p).length < n := h
  rw [List.getElem?_range h2] at g1
  cases g1
  exact g2
def mn (a b : Nat) : Nat := if a < b then a else b
theorem mn_1 {a b : Nat} : mn a b ≤ a ∧ mn a b ≤ b ∧ (mn a b = a ∨ mn a b = b) := by
  unfold mn
  split <;> omega
/-- how many of a hunk's lines are equal at its beginning, and then at its end -/
def pt (O N : Nat → Int) (q : Nat × Nat × Nat × Nat) : Nat := mt (fun d => decide (O (q.1 + d) = N (q.2.2.1 + d))) (mn q.2.1 q.2.2.2)
def pu (O N : Nat → Int) (q : Nat × Nat × Nat × Nat) : Nat := mt (fun d => decide (O (q.1 + q.2.1 - 1 - d) = N (q.2.2.1 + q.2.2.2 - 1 - d))) (mn (q.2.1 - pt O N q) (q.2.2.2 - pt O N q))
def pe1 (q : Nat × Nat × Nat × Nat) (G : Nat → Int) (t u : Nat) : Nat → Int := fun x => if q.1 ≤ x ∧ x < q.1 + t then ((q.2.2.1 + (x - q.1) : Nat) : Int) else if q.1 + q.2.1 - u ≤ x ∧ x < q.1 + q.2.1 then ((q.2.2.1 + q.2.2.2 - (q.1 + q.2.1 - x) : Nat) : Int) else G x
def pe (O N : Nat → Int) (q : Nat × Nat × Nat × Nat) (G : Nat → Int) : Nat → Int := pe1 q G (pt O N q) (pu O N q)
theorem pt_b {O N : Nat → Int} {q : Nat × Nat × Nat × Nat} : pt O N q ≤ q.2.1 ∧ pt O N q ≤ q.2.2.2 ∧ (∀ d, d < pt O N q → O (q.1 + d) = N (q.2.2.1 + d)) ∧ (pt O N q < q.2.1 → pt O N q < q.2.2.2 → ¬ O (q.1 + pt O N q) = N (q.2.2.1 + pt O N q)) := by
  have h := mt_le (p := fun d => decide (O (q.1 + d) = N (q.2.2.1 + d))) (n := mn q.2.1 q.2.2.2)
  have m := mn_1 (a := q.2.1) (b := q.2.2.2)
  have e : mt (fun d => decide (O (q.1 + d) = N (q.2.2.1 + d))) (mn q.2.1 q.2.2.2) = pt O N q := rfl
  rw [e] at h
  refine ⟨by omega, by omega, fun d hd => ?_, fun h1 h2 => ?_⟩
  · rw [← e] at hd
    exact of_decide_eq_true (mt_m hd)
  · have z := mt_n (p := fun d => decide (O (q.1 + d) = N (q.2.2.1 + d))) (n := mn q.2.1 q.2.2.2) (by rw [e]; omega)
    rw [e] at z
    exact of_decide_eq_false z
theorem pu_b {O N : Nat → Int} {q : Nat × Nat × Nat × Nat} : pt O N q + pu O N q ≤ q.2.1 ∧ pt O N q + pu O N q ≤ q.2.2.2 ∧ (∀ d, d < pu O N q → O (q.1 + q.2.1 - 1 - d) = N (q.2.2.1 + q.2.2.2 - 1 - d)) ∧ (pt O N q + pu O N q < q.2.1 → pt O N q + pu O N q < q.2.2.2 → ¬ O (q.1 + q.2.1 - 1 - pu O N q) = N (q.2.2.1 + q.2.2.2 - 1 - pu O N q)) := by
  obtain ⟨b1, b2, -, -⟩ := pt_b (O := O) (N := N) (q := q)
  have h := mt_le (p := fun d => decide (O (q.1 + q.2.1 - 1 - d) = N (q.2.2.1 + q.2.2.2 - 1 - d))) (n := mn (q.2.1 - pt O N q) (q.2.2.2 - pt O N q))
  have m := mn_1 (a := q.2.1 - pt O N q) (b := q.2.2.2 - pt O N q)
  have e : mt (fun d => decide (O (q.1 + q.2.1 - 1 - d) = N (q.2.2.1 + q.2.2.2 - 1 - d))) (mn (q.2.1 - pt O N q) (q.2.2.2 - pt O N q)) = pu O N q := rfl
  rw [e] at h
  refine ⟨by omega, by omega, fun d hd => ?_, fun h1 h2 => ?_⟩
  · rw [← e] at hd
    exact of_decide_eq_true (mt_m hd)
  · have z := mt_n (p := fun d => decide (O (q.1 + q.2.1 - 1 - d) = N (q.2.2.1 + q.2.2.2 - 1 - d))) (n := mn (q.2.1 - pt O N q) (q.2.2.2 - pt O N q)) (by rw [e]; omega)
    rw [e] at z
    exact of_decide_eq_false z
/-- pairs in order, of equal lines -/
def GD (O N : Nat → Int) (nb na : Nat) (G : Nat → Int) : Prop := VF G nb na ∧ ∀ x, x < nb → ¬ G x = -1 → O x = N (G x).toNat
def HB (G : Nat → Int) (nb : Nat) (q : Nat × Nat × Nat × Nat) : Prop := ∀ x, x < nb → ¬ G x = -1 → (x < q.1 ∧ G x < (q.2.2.1 : Nat)) ∨ (q.1 + q.2.1 ≤ x ∧ ((q.2.2.1 + q.2.2.2 : Nat) : Int) ≤ G x)
def SR : List (Nat × Nat × Nat × Nat) → Prop
  | [] => True
  | q :: t => (∀ r, r ∈ t → q.1 + q.2.1 ≤ r.1 ∧ q.2.2.1 + q.2.2.2 ≤ r.2.2.1) ∧ SR t
theorem pe_c {O N G : Nat → Int} {q : Nat × Nat × Nat × Nat} (x : Nat) : (∃ d, d < pt O N q ∧ x = q.1 + d ∧ pe O N q G x = ((q.2.2.1 + d : Nat) : Int)) ∨ (∃ d, d < pu O N q ∧ x = q.1 + q.2.1 - 1 - d ∧ pe O N q G x = ((q.2.2.1 + q.2.2.2 - 1 - d : Nat) : Int)) ∨ (¬ (q.1 ≤ x ∧ x < q.1 + pt O N q) ∧ ¬ (q.1 + q.2.1 - pu O N q ≤ x ∧ x < q.1 + q.2.1) ∧ pe O N q G x = G x) := by
  obtain ⟨b1, b2, -, -⟩ := pt_b (O := O) (N := N) (q := q)
  obtain ⟨c1, c2, -, -⟩ := pu_b (O := O) (N := N) (q := q)
  unfold pe pe1
  by_cases h1 : q.1 ≤ x ∧ x < q.1 + pt O N q
  · rw [if_pos h1]
    refine Or.inl ⟨x - q.1, by omega, by omega, rfl⟩
  · rw [if_neg h1]
    by_cases h2 : q.1 + q.2.1 - pu O N q ≤ x ∧ x < q.1 + q.2.1
    · rw [if_pos h2]
      refine Or.inr (Or.inl ⟨q.1 + q.2.1 - 1 - x, by omega, by omega, by congr 1; omega⟩)
    · rw [if_neg h2]
      exact Or.inr (Or.inr ⟨h1, h2, rfl⟩)
theorem pe_gd {O N G : Nat → Int} {nb na : Nat} {q : Nat × Nat × Nat × Nat} (H : GD O N nb na G) (B : HB G nb q) (hb : q.1 + q.2.1 ≤ nb) (ha : q.2.2.1 + q.2.2.2 ≤ na) : GD O N nb na (pe O N q G) := by
  obtain ⟨b1, b2, b3, -⟩ := pt_b (O := O) (N := N) (q := q)
  obtain ⟨c1, c2, c3, -⟩ := pu_b (O := O) (N := N) (q := q)
  refine ⟨⟨fun x hx => ?_, fun x x' h1 h2 h3 h4 => ?_⟩, fun x hx hne => ?_⟩
  · rcases pe_c (O := O) (N := N) (G := G) (q := q) x with ⟨d, e1, e2, e3⟩ | ⟨d, e1, e2, e3⟩ | ⟨e1, e2, e3⟩
    · rw [e3]; omega
    · rw [e3]; omega
    · rw [e3]; exact H.1.1 x hx
  · rcases pe_c (O := O) (N := N) (G := G) (q := q) x with ⟨d, e1, e2, e3⟩ | ⟨d, e1, e2, e3⟩ | ⟨e1, e2, e3⟩
    · rcases pe_c (O := O) (N := N) (G := G) (q := q) x' with ⟨d', f1, f2, f3⟩ | ⟨d', f1, f2, f3⟩ | ⟨f1, f2, f3⟩
      · rw [e3, f3]; omega
      · rw [e3, f3]; omega
      · rw [f3] at h4
        rw [e3, f3]
        rcases B x' h2 h4 with y | y <;> omega
    · rcases pe_c (O := O) (N := N) (G := G) (q := q) x' with ⟨d', f1, f2, f3⟩ | ⟨d', f1, f2, f3⟩ | ⟨f1, f2, f3⟩
      · exfalso; omega
      · rw [e3, f3]; omega
      · rw [f3] at h4
        rw [e3, f3]
        rcases B x' h2 h4 with y | y <;> omega
    · rw [e3] at h3
      rcases pe_c (O := O) (N := N) (G := G) (q := q) x' with ⟨d', f1, f2, f3⟩ | ⟨d', f1, f2, f3⟩ | ⟨f1, f2, f3⟩
      · rw [e3, f3]
        rcases B x (by omega) h3 with y | y <;> omega
      · rw [e3, f3]
        rcases B x (by omega) h3 with y | y <;> omega
      · rw [f3] at h4
        rw [e3, f3]
        exact H.1.2 x x' h1 h2 h3 h4
  · rcases pe_c (O := O) (N := N) (G := G) (q := q) x with ⟨d, e1, e2, e3⟩ | ⟨d, e1, e2, e3⟩ | ⟨e1, e2, e3⟩
    · rw [e3, e2, b3 d e1]
      congr 1
    · rw [e3, e2, c3 d e1]
      congr 1
    · rw [e3] at hne ⊢
      exact H.2 x hx hne
theorem pe_hb {O N G : Nat → Int} {nb : Nat} {q r : Nat × Nat × Nat × Nat} (B : HB G nb r) (h : q.1 + q.2.1 ≤ r.1 ∧ q.2.2.1 + q.2.2.2 ≤ r.2.2.1) : HB (pe O N q G) nb r := by
  obtain ⟨b1, b2, b3, -⟩ := pt_b (O := O) (N := N) (q := q)
  obtain ⟨c1, c2, c3, -⟩ := pu_b (O := O) (N := N) (q := q)
  intro x hx hne
  rcases pe_c (O := O) (N := N) (G := G) (q := q) x with ⟨d, e1, e2, e3⟩ | ⟨d, e1, e2, e3⟩ | ⟨e1, e2, e3⟩
  · rw [e3]; left; omega
  · rw [e3]; left; omega
  · rw [e3] at hne ⊢
    exact B x hx hne
theorem pes_gd {O N : Nat → Int} {nb na : Nat} : ∀ (l : List (Nat × Nat × Nat × Nat)) (G : Nat → Int), GD O N nb na G → SR l → (∀ q, q ∈ l → HB G nb q ∧ q.1 + q.2.1 ≤ nb ∧ q.2.2.1 + q.2.2.2 ≤ na) → GD O N nb na (l.foldl (fun G q => pe O N q G) G) := by
  intro l
  induction l with
  | nil => intro G H _ _; exact H
  | cons q t ih =>
    intro G H S B
    rw [List.foldl_cons]
    obtain ⟨x1, x2, x3⟩ := B q List.mem_cons_self
    exact ih _ (pe_gd H x1 x2 x3) S.2 (fun r hr => ⟨pe_hb (B r (List.mem_cons_of_mem _ hr)).1 (S.1 r hr), (B r (List.mem_cons_of_mem _ hr)).2⟩)
theorem hkF_SR {f : Nat → Int} {nb na : Nat} (V : VF f nb na) : ∀ (w i j : Nat), VI f nb na i j → (∀ k, k < i → k < nb → ¬ f k = -1 → f k < (j : Int)) → SR (hkF f nb na w i j) ∧ ∀ q, q ∈ hkF f nb na w i j → HB f nb q := by
  intro w
  induction w with
  | zero =>
    intro i j hi hj
    exact ⟨trivial, fun q hq => by simp [hkF] at hq⟩
  | succ w ih =>
    intro i j hi hj
    rw [hkF_s]
    by_cases h1 : i < nb ∨ j < na
    · rw [if_pos h1]
      by_cases h2 : i < nb ∧ f i = (j : Int)
      · rw [if_pos h2]
        exact ih _ _ (VI_s V hi h2.1 h2.2) (fun k k1 k2 k3 => by
          by_cases y : k = i
          · rw [y, h2.2]; omega
          · have := hj k (by omega) k2 k3
            omega)
      · rw [if_neg h2]
        obtain ⟨u1, u2, u3, u4⟩ := VI_h V hi h1 h2
        have n1 := nx_ge (f := f) (nb := nb) (i := i)
        obtain ⟨g1, g2⟩ := ih _ _ u1 (fun k k1 k2 k3 => by
          by_cases y : k < i
          · have := hj k y k2 k3
            omega
          · exact absurd (nx_m (by omega) k1) k3)
        refine ⟨⟨fun r hr => ?_, g1⟩, fun q hq => ?_⟩
        · obtain ⟨n, hn⟩ := List.getElem?_of_mem hr
          have := hkF_bd V _ _ _ u1 n r hn
          dsimp only
          omega
        · rcases List.mem_cons.mp hq with e | e
          · rw [e]
            intro x hx hne
            dsimp only
            by_cases y : x < i
            · left
              exact ⟨y, hj x y hx hne⟩
            · by_cases y2 : x < nx f nb i
              · exact absurd (nx_m (by omega) y2) hne
              · right
                have := u1.2.2 x (by omega) hx hne
                omega
          · exact g2 q e
    · rw [if_neg h1]
      exact ⟨trivial, fun q hq => by simp at hq⟩
/-- the pairs of two patches, one behind the other -/
def fc (F F' : Nat → Int) : Nat → Int := fun i => if F i = -1 then -1 else F' (F i).toNat
theorem fc_VF {F F' : Nat → Int} {nb na na' : Nat} (V : VF F nb na) (V' : VF F' na na') : VF (fc F F') nb na' := by
  refine ⟨fun i hi => ?_, fun i i' h1 h2 h3 h4 => ?_⟩
  · unfold fc
    by_cases e : F i = -1
    · rw [if_pos e]; exact Or.inl rfl
    · rw [if_neg e]
      rcases V.1 i hi with z | z
      · exact absurd z e
      · exact V'.1 _ (by omega)
  · unfold fc at h3 h4 ⊢
    by_cases e : F i = -1
    · rw [if_pos e] at h3; exact absurd rfl h3
    by_cases e' : F i' = -1
    · rw [if_pos e'] at h4; exact absurd rfl h4
    rw [if_neg e] at h3 ⊢
    rw [if_neg e'] at h4 ⊢
    have z := V.2 i i' h1 h2 e e'
    rcases V.1 i (by omega) with y | y
    · exact absurd y e
    rcases V.1 i' h2 with y' | y'
    · exact absurd y' e'
    exact V'.2 _ _ (by omega) (by omega) h3 h4
theorem fc_GD {O N F O' N' F' : Nat → Int} {nb na na' : Nat} (V : VF F nb na) (V' : VF F' na na') (e1 : ∀ i, i < nb → ¬ F i = -1 → O i = N (F i).toNat) (e2 : ∀ i, i < na → ¬ F' i = -1 → O' i = N' (F' i).toNat) (e3 : ∀ k, k < na → N k = O' k) : GD O N' nb na' (fc F F') := by
  refine ⟨fc_VF V V', fun x hx hne => ?_⟩
  unfold fc at hne ⊢
  by_cases e : F x = -1
  · rw [if_pos e] at hne; exact absurd rfl hne
  · rw [if_neg e] at hne ⊢
    rcases V.1 x hx with y | y
    · exact absurd y e
    rw [e1 x hx e, e3 _ (by omega), e2 _ (by omega) hne]
/-- the pairs of the joined patch -/
def jp (O N' F F' : Nat → Int) (nb na' : Nat) : Nat → Int := (hks (fc F F') nb na').foldl (fun G q => pe O N' q G) (fc F F')
theorem jp_GD {O N F O' N' F' : Nat → Int} {nb na na' : Nat} (V : VF F nb na) (V' : VF F' na na') (e1 : ∀ i, i < nb → ¬ F i = -1 → O i = N (F i).toNat) (e2 : ∀ i, i < na → ¬ F' i = -1 → O' i = N' (F' i).toNat) (e3 : ∀ k, k < na → N k = O' k) : GD O N' nb na' (jp O N' F F' nb na') := by
  have W := fc_VF V V'
  obtain ⟨g1, g2⟩ := hkF_SR W (nb + na') 0 0 (VI_0 W) (fun k hk => absurd hk (Nat.not_lt_zero k))
  refine pes_gd _ _ (fc_GD V V' e1 e2 e3) g1 (fun q hq => ⟨g2 q hq, ?_⟩)
  obtain ⟨n, hn⟩ := List.getElem?_of_mem hq
  exact hks_bd W hn
/-- the model's side: one hunk -/
theorem l295a {s n h nb na : Nat} {q : Nat × Nat × Nat × Nat} {O N G : Nat → Int} {d1 d2 : Option AV} (hs : s < 44) (h1 : nb ≤ 100) (h2 : na ≤ 100) (hb : q.1 + q.2.1 ≤ nb) (ha : q.2.2.1 + q.2.2.2 ≤ na) : ∀ (d k : Nat) (σ : Sg), k + d = pt O N q → (∀ i, i < nb → σ 685 (100 * s + i) = O i) → (∀ i, i < na → σ 686 (100 * s + i) = N i) → (∀ x, x < nb → σ 687 (100 * s + x) = pe1 q G k 0 x) → ∃ σ', (∀ {o : Rs}, C295_284 d1 d2 s n h ((100 * s + (q.1 + pt O N q) : Nat) : Int) ((100 * s + (q.1 + q.2.1) : Nat) : Int) ((100 * s + (q.2.2.1 + pt O N q) : Nat) : Int) ((100 * s + (q.2.2.1 + q.2.2.2) : Nat) : Int) σ' o → C295_230 d1 d2 s n h ((100 * s + (q.1 + k) : Nat) : Int) ((100 * s + (q.1 + q.2.1) : Nat) : Int) ((100 * s + (q.2.2.1 + k) : Nat) : Int) ((100 * s + (q.2.2.1 + q.2.2.2) : Nat) : Int) σ o) ∧ (∀ x, x < nb → σ' 687 (100 * s + x) = pe1 q G (pt O N q) 0 x) ∧ ∀ c x, ¬ (c = 687 ∧ 100 * s ≤ x ∧ x < 100 * s + 100) → σ' c x = σ c x := by
  obtain ⟨b1, b2, b3, b4⟩ := pt_b (O := O) (N := N) (q := q)
  intro d
  induction d with
  | zero =>
    intro k σ hk hO hN hG
    have e : k = pt O N q := by omega
    subst e
    refine ⟨σ, fun {o} hh => b295_230 ?_, hG, fun _ _ _ => rfl⟩
    by_cases y1 : pt O N q < q.2.1
    · rw [if_pos (by omega)]
      by_cases y2 : pt O N q < q.2.2.2
      · rw [if_pos (by omega)]
        refine ⟨by omega, by omega, ?_⟩
        rw [show ((100 * s + (q.1 + pt O N q) : Nat) : Int).toNat = 100 * s + (q.1 + pt O N q) by omega, show ((100 * s + (q.2.2.1 + pt O N q) : Nat) : Int).toNat = 100 * s + (q.2.2.1 + pt O N q) by omega, hO _ (by omega), hN _ (by omega), if_neg (b4 y1 y2)]
        exact hh
      · rw [if_neg (by omega)]
        exact hh
    · rw [if_neg (by omega)]
      exact hh
  | succ d ih =>
    intro k σ hk hO hN hG
    obtain ⟨σ', a1, a2, a3⟩ := ih (k + 1) (upS σ 687 (100 * s + (q.1 + k)) ((q.2.2.1 + k : Nat) : Int)) (by omega) (fun i hi => by rw [up_a (by decide)]; exact hO i hi) (fun i hi => by rw [up_a (by decide)]; exact hN i hi) (fun x hx => by
      by_cases e : x = q.1 + k
      · rw [e, up_s]
        unfold pe1
        rw [if_pos (by omega)]
        congr 1
        omega
      · rw [up_k (by omega), hG x hx]
        unfold pe1
        by_cases y : q.1 ≤ x ∧ x < q.1 + k
        · rw [if_pos y, if_pos (by omega)]
        · rw [if_neg y, if_neg (show ¬ (q.1 ≤ x ∧ x < q.1 + (k + 1)) by omega)])
    refine ⟨σ', fun {o} hh => b295_230 ?_, a2, fun c x hx => by
      rw [a3 c x hx]
      unfold upS
      rw [if_neg (by omega)]⟩
    rw [if_pos (by omega), if_pos (by omega), show ((100 * s + (q.1 + k) : Nat) : Int).toNat = 100 * s + (q.1 + k) by omega, show ((100 * s + (q.2.2.1 + k) : Nat) : Int).toNat = 100 * s + (q.2.2.1 + k) by omega, hO _ (by omega), hN _ (by omega), if_pos (b3 k (by omega)), show ((100 * s + (q.2.2.1 + k) : Nat) : Int) - 100 * (s : Int) = ((q.2.2.1 + k : Nat) : Int) by omega]
    refine ⟨by omega, by omega, by omega, by omega, by omega, by omega, by omega, ?_⟩
    have z := a1 hh
    rw [show ((100 * s + (q.1 + (k + 1)) : Nat) : Int) = ((100 * s + (q.1 + k) : Nat) : Int) + 1 by omega, show ((100 * s + (q.2.2.1 + (k + 1)) : Nat) : Int) = ((100 * s + (q.2.2.1 + k) : Nat) : Int) + 1 by omega] at z
    exact z
theorem l295b {s n h nb na : Nat} {q : Nat × Nat × Nat × Nat} {O N G : Nat → Int} {d1 d2 : Option AV} (hs : s < 44) (hn : n < 200) (hh0 : h < n) (h1 : nb ≤ 100) (h2 : na ≤ 100) (hb : q.1 + q.2.1 ≤ nb) (ha : q.2.2.1 + q.2.2.2 ≤ na) : ∀ (d k : Nat) (σ : Sg), k + d = pu O N q → (∀ i, i < nb → σ 685 (100 * s + i) = O i) → (∀ i, i < na → σ 686 (100 * s + i) = N i) → (∀ x, x < nb → σ 687 (100 * s + x) = pe1 q G (pt O N q) k x) → ∃ σ', (∀ {o : Rs}, (∀ d6 d7 d8 d9, C295_171 d1 d2 s n ((h + 1 : Nat) : Int) d6 d7 d8 d9 σ' o) → C295_284 d1 d2 s n h ((100 * s + (q.1 + pt O N q) : Nat) : Int) ((100 * s + (q.1 + q.2.1 - k) : Nat) : Int) ((100 * s + (q.2.2.1 + pt O N q) : Nat) : Int) ((100 * s + (q.2.2.1 + q.2.2.2 - k) : Nat) : Int) σ o) ∧ (∀ x, x < nb → σ' 687 (100 * s + x) = pe O N q G x) ∧ ∀ c x, ¬ (c = 687 ∧ 100 * s ≤ x ∧ x < 100 * s + 100) → σ' c x = σ c x := by
  obtain ⟨b1, b2, b3, b4⟩ := pu_b (O := O) (N := N) (q := q)
  intro d
  induction d with
  | zero =>
    intro k σ hk hO hN hG
    have e : k = pu O N q := by omega
    subst e
    refine ⟨σ, fun {o} hh => b295_284 ?_, hG, fun _ _ _ => rfl⟩
    have fin : ∀ d6 d7 d8 d9, C295_342 d1 d2 s n h d6 d7 d8 d9 σ o := fun d6 d7 d8 d9 => b295_342 ⟨by omega, by
      rw [show (h : Int) + 1 = ((h + 1 : Nat) : Int) by omega]
      exact hh d6 d7 d8 d9⟩
    by_cases y1 : pt O N q + pu O N q < q.2.1
    · rw [if_pos (by omega)]
      by_cases y2 : pt O N q + pu O N q < q.2.2.2
      · rw [if_pos (by omega)]
        refine ⟨by omega, by omega, by omega, by omega, ?_⟩
        rw [show (((100 * s + (q.1 + q.2.1 - pu O N q) : Nat) : Int) - 1).toNat = 100 * s + (q.1 + q.2.1 - 1 - pu O N q) by omega, show (((100 * s + (q.2.2.1 + q.2.2.2 - pu O N q) : Nat) : Int) - 1).toNat = 100 * s + (q.2.2.1 + q.2.2.2 - 1 - pu O N q) by omega, hO _ (by omega), hN _ (by omega), if_neg (b4 y1 y2)]
        exact fin _ _ _ _
      · rw [if_neg (by omega)]
        exact fin _ _ _ _
    · rw [if_neg (by omega)]
      exact fin _ _ _ _
  | succ d ih =>
    intro k σ hk hO hN hG
    obtain ⟨σ', a1, a2, a3⟩ := ih (k + 1) (upS σ 687 (100 * s + (q.1 + q.2.1 - 1 - k)) ((q.2.2.1 + q.2.2.2 - 1 - k : Nat) : Int)) (by omega) (fun i hi => by rw [up_a (by decide)]; exact hO i hi) (fun i hi => by rw [up_a (by decide)]; exact hN i hi) (fun x hx => by
      by_cases e : x = q.1 + q.2.1 - 1 - k
      · rw [e, up_s]
        unfold pe1
        rw [if_neg (by omega), if_pos (by omega)]
        congr 1
        omega
      · rw [up_k (by omega), hG x hx]
        unfold pe1
        by_cases y : q.1 ≤ x ∧ x < q.1 + pt O N q
        · rw [if_pos y, if_pos y]
        · rw [if_neg y, if_neg y]
          by_cases y2 : q.1 + q.2.1 - k ≤ x ∧ x < q.1 + q.2.1
          · rw [if_pos y2, if_pos (by omega)]
          · rw [if_neg y2, if_neg (show ¬ (q.1 + q.2.1 - (k + 1) ≤ x ∧ x < q.1 + q.2.1) by omega)])
    refine ⟨σ', fun {o} hh => b295_284 ?_, a2, fun c x hx => by
      rw [a3 c x hx]
      unfold upS
      rw [if_neg (by omega)]⟩
    have e1 : ((100 * s + (q.1 + q.2.1 - k) : Nat) : Int) - 1 = ((100 * s + (q.1 + q.2.1 - 1 - k) : Nat) : Int) := by omega
    have e2 : ((100 * s + (q.2.2.1 + q.2.2.2 - k) : Nat) : Int) - 1 = ((100 * s + (q.2.2.1 + q.2.2.2 - 1 - k) : Nat) : Int) := by omega
    have e3 : ((100 * s + (q.1 + q.2.1 - k) : Nat) : Int) + (-1) = ((100 * s + (q.1 + q.2.1 - 1 - k) : Nat) : Int) := by omega
    have e4 : ((100 * s + (q.2.2.1 + q.2.2.2 - k) : Nat) : Int) + (-1) = ((100 * s + (q.2.2.1 + q.2.2.2 - 1 - k) : Nat) : Int) := by omega
    rw [if_pos (by omega), if_pos (by omega), e1, e2, e3, e4, show ((100 * s + (q.1 + q.2.1 - 1 - k) : Nat) : Int).toNat = 100 * s + (q.1 + q.2.1 - 1 - k) by omega, show ((100 * s + (q.2.2.1 + q.2.2.2 - 1 - k) : Nat) : Int).toNat = 100 * s + (q.2.2.1 + q.2.2.2 - 1 - k) by omega, hO _ (by omega), hN _ (by omega), if_pos (b3 k (by omega)), show ((100 * s + (q.2.2.1 + q.2.2.2 - 1 - k) : Nat) : Int) - 100 * (s : Int) = ((q.2.2.1 + q.2.2.2 - 1 - k : Nat) : Int) by omega]
    refine ⟨by omega, by omega, by omega, by omega, by omega, by omega, by omega, by omega, by omega, ?_⟩
    have z := a1 hh
    rw [show q.1 + q.2.1 - (k + 1) = q.1 + q.2.1 - 1 - k by omega, show q.2.2.1 + q.2.2.2 - (k + 1) = q.2.2.1 + q.2.2.2 - 1 - k by omega] at z
    exact z
theorem pe1_0 {q : Nat × Nat × Nat × Nat} {G : Nat → Int} (x : Nat) : pe1 q G 0 0 x = G x := by
  unfold pe1
  rw [if_neg (by omega), if_neg (by omega)]
/-- all hunks -/
theorem l295c {s nb na : Nat} {l : List (Nat × Nat × Nat × Nat)} {O N : Nat → Int} {d1 d2 : Option AV} (hs : s < 44) (h1 : nb ≤ 100) (h2 : na ≤ 100) (hl : l.length ≤ 120) (hbd : ∀ q, q ∈ l → q.1 + q.2.1 ≤ nb ∧ q.2.2.1 + q.2.2.2 ≤ na) : ∀ (d h : Nat) (G : Nat → Int) (σ : Sg), h + d = l.length → HK σ 0 0 l → (∀ i, i < nb → σ 685 (100 * s + i) = O i) → (∀ i, i < na → σ 686 (100 * s + i) = N i) → (∀ x, x < nb → σ 687 (100 * s + x) = G x) → ∃ σ', (∀ d6 d7 d8 d9, C295_171 d1 d2 s (l.length : Nat) h d6 d7 d8 d9 σ (rV σ')) ∧ (∀ x, x < nb → σ' 687 (100 * s + x) = ((l.drop h).foldl (fun G q => pe O N q G) G) x) ∧ ∀ c x, ¬ (c = 687 ∧ 100 * s ≤ x ∧ x < 100 * s + 100) → σ' c x = σ c x := by
  intro d
  induction d with
  | zero =>
    intro h G σ hh hK hO hN hG
    refine ⟨σ, fun d6 d7 d8 d9 => b295_171 ?_, fun x hx => ?_, fun _ _ _ => rfl⟩
    · rw [if_neg (by omega)]
    · rw [List.drop_eq_nil_of_le (by omega)]
      exact hG x hx
  | succ d ih =>
    intro h G σ hh hK hO hN hG
    have hlt : h < l.length := by omega
    obtain ⟨q, hq⟩ : ∃ q, q = l[h] := ⟨_, rfl⟩
    have hq2 : l[h]? = some q := by rw [hq]; exact List.getElem?_eq_getElem hlt
    obtain ⟨v0, v1, v2, v3⟩ := hK h q hq2
    rw [show 128 * 0 + (0 + h) = h by omega] at v0 v1 v2 v3
    obtain ⟨b1, b2⟩ := hbd q (by rw [hq]; exact List.getElem_mem hlt)
    obtain ⟨s1, a1, a2, a3⟩ := l295a (n := l.length) (h := h) (d1 := d1) (d2 := d2) (G := G) hs h1 h2 b1 b2 (pt O N q) 0 σ (by omega) hO hN (fun x hx => by rw [pe1_0]; exact hG x hx)
    obtain ⟨s2, c1, c2, c3⟩ := l295b (n := l.length) (h := h) (d1 := d1) (d2 := d2) (G := G) (O := O) (N := N) hs (by omega) hlt h1 h2 b1 b2 (pu O N q) 0 s1 (by omega) (fun i hi => by rw [a3 _ _ (by omega)]; exact hO i hi) (fun i hi => by rw [a3 _ _ (by omega)]; exact hN i hi) a2
    obtain ⟨σ', e1, e2, e3⟩ := ih (h + 1) (pe O N q G) s2 (by omega) (fun h' q' hq' => by
      have := hK h' q' hq'
      rw [c3 _ _ (by omega), c3 _ _ (by omega), c3 _ _ (by omega), c3 _ _ (by omega), a3 _ _ (by omega), a3 _ _ (by omega), a3 _ _ (by omega), a3 _ _ (by omega)]
      exact this) (fun i hi => by rw [c3 _ _ (by omega), a3 _ _ (by omega)]; exact hO i hi) (fun i hi => by rw [c3 _ _ (by omega), a3 _ _ (by omega)]; exact hN i hi) c2
    refine ⟨σ', fun d6 d7 d8 d9 => b295_171 ?_, fun x hx => ?_, fun c x hx => by rw [e3 c x hx, c3 c x hx, a3 c x hx]⟩
    · rw [if_pos (by omega), show ((h : Nat) : Int).toNat = h by omega, v0, v1, v2, v3]
      refine ⟨by omega, by omega, by omega, by omega, by omega, by omega, by omega, by omega, by omega, by omega, ?_⟩
      have z := a1 (c1 e1)
      rw [Nat.add_zero, Nat.add_zero] at z
      rw [show 100 * (s : Int) + ((q.1 : Nat) : Int) = ((100 * s + q.1 : Nat) : Int) by omega, show ((100 * s + q.1 : Nat) : Int) + ((q.2.1 : Nat) : Int) = ((100 * s + (q.1 + q.2.1) : Nat) : Int) by omega, show 100 * (s : Int) + ((q.2.2.1 : Nat) : Int) = ((100 * s + q.2.2.1 : Nat) : Int) by omega, show ((100 * s + q.2.2.1 : Nat) : Int) + ((q.2.2.2 : Nat) : Int) = ((100 * s + (q.2.2.1 + q.2.2.2) : Nat) : Int) by omega]
      exact z
    · rw [e2 x hx, List.drop_eq_getElem_cons hlt, List.foldl_cons, ← hq]
/-- the texts and the first pairs -/
theorem l295e {t p na' : Nat} {N' : Nat → Int} {d1 : Option AV} (ht : t < 44) (hp : p < 44) (htp : ¬ t = p) (h1 : na' ≤ 100) {d6 d7 d8 d9 : Option AV} : ∀ (d i : Nat) (σ : Sg), i + d = na' → σ 689 p = (na' : Nat) → (∀ k, k < na' → σ 686 (100 * t + k) = N' k) → (∀ k, k < i → σ 686 (100 * p + k) = N' k) → ∃ σ', (∀ {o : Rs}, (∃ (v10 : Int) (s9 : Sg), Dd 280 [vA 682, vI p, vI 0] σ' (rI v10 s9) ∧ C295_171 d1 (some (vI t)) p v10 0 d6 d7 d8 d9 s9 o) → ∀ d5, C295_119 d1 t p i d5 d6 d7 d8 d9 σ o) ∧ (∀ k, k < na' → σ' 686 (100 * p + k) = N' k) ∧ ∀ c x, ¬ (c = 686 ∧ 100 * p ≤ x ∧ x < 100 * p + 100) → σ' c x = σ c x := by
  intro d
  induction d with
  | zero =>
    intro i σ hi hm hN h0
    refine ⟨σ, fun {o} hh d5 => b295_119 ⟨by omega, ?_⟩, fun k hk => h0 k (by omega), fun _ _ _ => rfl⟩
    rw [show ((p : Nat) : Int).toNat = p by omega, if_neg (by omega)]
    exact hh
  | succ d ih =>
    intro i σ hi hm hN h0
    have e1 : ((100 * (p : Int)) + (i : Int)).toNat = 100 * p + i := by omega
    have e2 : ((100 * (t : Int)) + (i : Int)).toNat = 100 * t + i := by omega
    obtain ⟨σ', a1, a2, a3⟩ := ih (i + 1) (upS σ 686 (100 * p + i) (σ 686 (100 * t + i))) (by omega) (by rw [up_a (by decide)]; exact hm) (fun k hk => by rw [up_k (by omega)]; exact hN k hk) (fun k hk => by
      by_cases e : k = i
      · rw [e, up_s]; exact hN i (by omega)
      · rw [up_k (by omega)]; exact h0 k (by omega))
    refine ⟨σ', fun {o} hh d5 => b295_119 ⟨by omega, ?_⟩, a2, fun c x hx => by
      rw [a3 c x hx]
      unfold upS
      rw [if_neg (by omega)]⟩
    have z := a1 hh d5
    rw [show ((p : Nat) : Int).toNat = p by omega, if_pos (by omega), e1, e2]
    rw [show (((i + 1 : Nat)) : Int) = (i : Int) + 1 by omega] at z
    exact ⟨by omega, by omega, by omega, by omega, by omega, by omega, by omega, z⟩
theorem l295d {s t p nb na na' : Nat} {O F F' : Nat → Int} (hs : s < 44) (ht : t < 44) (hp : p < 44) (hsp : ¬ s = p) (htp : ¬ t = p) (h1 : nb ≤ 100) (h3 : na ≤ 100) (V : VF F nb na) {d6 d7 d8 d9 : Option AV} : ∀ (d i : Nat) (d5 : Option AV) (σ : Sg), i + d = nb → σ 688 p = (nb : Nat) → (∀ k, k < nb → σ 685 (100 * s + k) = O k) → (∀ k, k < nb → σ 687 (100 * s + k) = F k) → (∀ k, k < na → σ 687 (100 * t + k) = F' k) → (∀ k, k < i → σ 685 (100 * p + k) = O k ∧ σ 687 (100 * p + k) = fc F F' k) → ∃ σ', (∀ {o : Rs}, (∀ d5, C295_119 (some (vI s)) t p 0 d5 d6 d7 d8 d9 σ' o) → C295_27 s t p i d5 d6 d7 d8 d9 σ o) ∧ (∀ k, k < nb → σ' 685 (100 * p + k) = O k ∧ σ' 687 (100 * p + k) = fc F F' k) ∧ ∀ c x, ¬ ((c = 685 ∨ c = 687) ∧ 100 * p ≤ x ∧ x < 100 * p + 100) → σ' c x = σ c x := by
  intro d
  induction d with
  | zero =>
    intro i d5 σ hi hn hO hF hF' h0
    refine ⟨σ, fun {o} hh => b295_27 ⟨by omega, ?_⟩, fun k hk => h0 k (by omega), fun _ _ _ => rfl⟩
    rw [show ((p : Nat) : Int).toNat = p by omega, if_neg (by omega)]
    exact hh _
  | succ d ih =>
    intro i d5 σ hi hn hO hF hF' h0
    have e1 : ((100 * (p : Int)) + (i : Int)).toNat = 100 * p + i := by omega
    have e2 : ((100 * (s : Int)) + (i : Int)).toNat = 100 * s + i := by omega
    have g : ∀ v c x, ¬ ((c = 685 ∨ c = 687) ∧ x = 100 * p + i) → upS (upS σ 685 (100 * p + i) (σ 685 (100 * s + i))) 687 (100 * p + i) v c x = σ c x := by
      intro v c x hx
      unfold upS
      rw [if_neg (by omega), if_neg (by omega)]
    obtain ⟨σ', a1, a2, a3⟩ := ih (i + 1) (some (vI (F i))) (upS (upS σ 685 (100 * p + i) (σ 685 (100 * s + i))) 687 (100 * p + i) (fc F F' i)) (by omega) (by rw [g _ _ _ (by omega)]; exact hn) (fun k hk => by rw [g _ _ _ (by omega)]; exact hO k hk) (fun k hk => by rw [g _ _ _ (by omega)]; exact hF k hk) (fun k hk => by rw [g _ _ _ (by omega)]; exact hF' k hk) (fun k hk => by
      by_cases e : k = i
      · rw [e, up_s, up_a (by decide), up_s]
        exact ⟨hO i (by omega), rfl⟩
      · rw [g _ _ _ (by omega), g _ _ _ (by omega)]
        exact h0 k (by omega))
    have hv : (if F i = -1 then (-1 : Int) else (upS σ 685 (100 * p + i) (σ 685 (100 * s + i))) 687 (100 * (t : Int) + F i).toNat) = fc F F' i := by
      unfold fc
      by_cases e : F i = -1
      · rw [if_pos e, if_pos e]
      · rcases V.1 i (by omega) with z | z
        · exact absurd z e
        · rw [if_neg e, if_neg e, up_a (by decide), show (100 * (t : Int) + F i).toNat = 100 * t + (F i).toNat by omega, hF' _ (by omega)]
    have vb := V.1 i (by omega)
    refine ⟨σ', fun {o} hh => b295_27 ⟨by omega, ?_⟩, a2, fun c x hx => by rw [a3 c x hx, g _ c x (by omega)]⟩
    have z := a1 hh
    rw [show ((p : Nat) : Int).toNat = p by omega, if_pos (by omega), e1, e2, hF i (by omega), hv]
    refine ⟨by omega, by omega, by omega, by omega, by omega, by omega, by omega, by omega, by omega, by omega, by omega, fun _ => by omega, fun _ => by omega, fun _ => by omega, b295_109 ⟨by omega, by omega, ?_⟩⟩
    rw [e1, show (i : Int) + 1 = ((i + 1 : Nat) : Int) by omega]
    exact z
theorem d295 {s t p nb na na' : Nat} {O N F O' N' F' : Nat → Int} {σ : Sg} (hs : s < 44) (ht : t < 44) (hp : p < 44) (hsp : ¬ s = p) (htp : ¬ t = p) (h1 : nb ≤ 100) (h2 : na ≤ 100) (h3 : na' ≤ 100) (V : VF F nb na) (V' : VF F' na na') (S : Slot σ s nb na O N F) (S' : Slot σ t na na' O' N' F') : ∃ σ', Dd 295 [vA 682, vI s, vI t, vI p] σ (rV σ') ∧ Slot σ' p nb na' O N' (jp O N' F F' nb na') ∧ ∀ c x, ¬ (685 ≤ c ∧ c ≤ 687 ∧ 100 * p ≤ x ∧ x < 100 * p + 100) → ¬ ((c = 688 ∨ c = 689) ∧ x = p) → ¬ (700 ≤ c ∧ c ≤ 704) → σ' c x = σ c x := by
  obtain ⟨s1, s2, s3, s4, s5⟩ := S
  obtain ⟨t1, t2, t3, t4, t5⟩ := S'
  have g : ∀ c x, ¬ ((c = 688 ∨ c = 689) ∧ x = p) → upS (upS σ 688 p (σ 688 s)) 689 p ((upS σ 688 p (σ 688 s)) 689 t) c x = σ c x := by
    intro c x hx
    unfold upS
    rw [if_neg (by omega), if_neg (by omega)]
  have n1 : upS (upS σ 688 p (σ 688 s)) 689 p ((upS σ 688 p (σ 688 s)) 689 t) 688 p = (nb : Nat) := by rw [up_a (by decide), up_s]; exact s1
  have n2 : upS (upS σ 688 p (σ 688 s)) 689 p ((upS σ 688 p (σ 688 s)) 689 t) 689 p = (na' : Nat) := by rw [up_s, up_a (by decide)]; exact t2
  obtain ⟨x1, a1, a2, a3⟩ := l295d (O := O) (F := F) (F' := F') (na' := na') (d6 := none) (d7 := none) (d8 := none) (d9 := none) hs ht hp hsp htp h1 h2 V nb 0 none (upS (upS σ 688 p (σ 688 s)) 689 p ((upS σ 688 p (σ 688 s)) 689 t)) (by omega) n1 (fun k hk => by rw [g _ _ (by omega)]; exact s3 k hk) (fun k hk => by rw [g _ _ (by omega)]; exact s5 k hk) (fun k hk => by rw [g _ _ (by omega)]; exact t5 k hk) (fun k hk => absurd hk (Nat.not_lt_zero k))
  obtain ⟨x2, c1, c2, c3⟩ := l295e (N' := N') (d1 := some (vI s)) (d6 := none) (d7 := none) (d8 := none) (d9 := none) ht hp htp h3 na' 0 x1 (by omega) (by rw [a3 _ _ (by omega)]; exact n2) (fun k hk => by rw [a3 _ _ (by omega), g _ _ (by omega)]; exact t4 k hk) (fun k hk => absurd hk (Nat.not_lt_zero k))
  have W := fc_VF V V'
  have m1 : x2 688 p = (nb : Nat) := by rw [c3 _ _ (by omega), a3 _ _ (by omega)]; exact n1
  have m2 : x2 689 p = (na' : Nat) := by rw [c3 _ _ (by omega), a3 _ _ (by omega)]; exact n2
  obtain ⟨x3, e1, e2, e3, e4, e5⟩ := d280 (s := p) (wh := 0) (f := fc F F') (σ := x2) hp (by decide) h1 h3 W m1 m2 (fun i hi => by rw [c3 _ _ (by omega)]; exact (a2 i hi).2)
  obtain ⟨x4, f1, f2, f3⟩ := l295c (l := hks (fc F F') nb na') (O := O) (N := N') (d1 := some (vI s)) (d2 := some (vI t)) hp h1 h3 (by omega) (fun q hq => by
    obtain ⟨n, hn⟩ := List.getElem?_of_mem hq
    exact hks_bd W hn) (hks (fc F F') nb na').length 0 (fc F F') x3 (by omega) e2 (fun i hi => by rw [e5 _ _ (by omega) (by omega), c3 _ _ (by omega)]; exact (a2 i hi).1) (fun i hi => by rw [e5 _ _ (by omega) (by omega)]; exact c2 i hi) (fun i hi => by rw [e5 _ _ (by omega) (by omega), c3 _ _ (by omega)]; exact (a2 i hi).2)
  refine ⟨x4, b295 ⟨by omega, by omega, by omega, by omega, ?_⟩, ⟨by rw [f3 _ _ (by omega), e5 _ _ (by omega) (by omega)]; exact m1, by rw [f3 _ _ (by omega), e5 _ _ (by omega) (by omega)]; exact m2, fun i hi => ?_, fun i hi => ?_, fun i hi => f2 i hi⟩, fun c x y1 y2 y3 => ?_⟩
  · rw [show ((p : Nat) : Int).toNat = p by omega, show ((s : Nat) : Int).toNat = s by omega, show ((t : Nat) : Int).toNat = t by omega]
    exact a1 (fun d5 => c1 ⟨_, _, e1, f1 _ _ _ _⟩ d5)
  · rw [f3 _ _ (by omega), e5 _ _ (by omega) (by omega), c3 _ _ (by omega)]; exact (a2 i hi).1
  · rw [f3 _ _ (by omega), e5 _ _ (by omega) (by omega)]; exact c2 i hi
  · rw [f3 c x (by omega), e5 c x (by omega) (by omega), c3 c x (by omega), a3 c x (by omega), g c x y2]
end
