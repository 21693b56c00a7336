/-! UNIQUE, the class's side. -/
noncomputable section
def ptn (f g : Nat → Int) (a ae b be k : Nat) : Int := if cnt f (f k) a (ae - a) = 1 ∧ cnt g (f k) b (be - b) = 1 then fnd g (f k) b (be - b) else -1
theorem ptn_c {f g : Nat → Int} {a ae b be k : Nat} : ptn f g a ae b be k = -1 ∨ ∃ j : Nat, ptn f g a ae b be k = (j : Int) ∧ b ≤ j ∧ j < be ∧ g j = f k := by
  unfold ptn
  by_cases h : cnt f (f k) a (ae - a) = 1 ∧ cnt g (f k) b (be - b) = 1
  · rw [if_pos h]
    have h0 := (cnt_0 (f := g) (x := f k) (be - b) b).mp (by omega)
    obtain ⟨j, e1, e2, e3, e4⟩ := fnd_in _ _ h0
    exact Or.inr ⟨j, e1, e2, by omega, e4⟩
  · rw [if_neg h]
    exact Or.inl rfl
theorem cpC2 : isRow 339 = true ∧ cap 339 = 40 ∧ isRow 341 = true ∧ cap 341 = 40 := by decide +kernel
/-- findPartners -/
theorem d30 {σ0 : Sg} {f g : Nat → Int} {n1 n2 a ae b be : Nat} (C : CR σ0 f g n1 n2) (ha : a ≤ ae) (hb : b ≤ be) (h1 : ae ≤ n1) (h2 : be ≤ n2) : ∃ s, Dd 30 [vA 332, vI a, vI ae, vI b, vI be] σ0 (rV s) ∧ s 339 1 = (n1 : Nat) ∧ (∀ k, a ≤ k → k < ae → s 340 k = ptn f g a ae b be k) ∧ ∀ c x, ¬ c = 339 → ¬ c = 340 → s c x = σ0 c x := by
  obtain ⟨r339, c339, -, -⟩ := cpC2
  have C' := C
  obtain ⟨h40, h40', w1, w2, w3, z1, z2, z3, hf, hg⟩ := C'
  have q1 := d146 (σ := σ0) w1.1
  rw [z1] at q1
  have q2 := d153 (σ := σ0) (a := 339) (n := (n1 : Int)) (v := -1) r339
  have v1 : flS σ0 339 (n1 : Int) (-1) 339 1 = (n1 : Nat) := fl_sz (by omega) (by rw [c339]; omega)
  have v2 : ∀ k : Nat, k < n1 → flS σ0 339 (n1 : Int) (-1) 340 k = -1 := fun k hk => fl_val (a := 339) (by omega) (by rw [c339]; omega) (by omega)
  have v3 : ∀ c x, ¬ c = 339 → ¬ c = 340 → flS σ0 339 (n1 : Int) (-1) c x = σ0 c x := fun c x y1 y2 => fl_off y1 y2
  generalize flS σ0 339 (n1 : Int) (-1) = s0 at q2 v1 v2 v3
  have L : ∀ (d k : Nat) (σ : Sg), k + d = ae → a ≤ k → (∀ c x, ¬ c = 340 → σ c x = s0 c x) → (∀ x, a ≤ x → x < k → σ 340 x = ptn f g a ae b be x) → (∀ x, k ≤ x → x < ae → σ 340 x = -1) → ∃ s, (∀ d6, C30_18 a ae b be k d6 σ (rV s)) ∧ (∀ x, a ≤ x → x < ae → s 340 x = ptn f g a ae b be x) ∧ ∀ c x, ¬ c = 340 → s c x = s0 c x := by
    intro d
    induction d with
    | zero =>
      intro k σ hk hak hF h3 h4
      refine ⟨σ, fun d6 => b30_18 ?_, fun x y1 y2 => h3 x y1 (by omega), hF⟩
      rw [if_neg (by omega)]
    | succ d ih =>
      intro k σ hk hak hF h3 h4
      have CF : CR σ f g n1 n2 := CR_fr (fun c x hc => by rw [hF c x (by omega)]; exact v3 c x (by omega) (by omega)) C
      obtain ⟨-, -, W1, W2, -, Z1, Z2, -, HF, HG⟩ := CF
      have CF : CR σ f g n1 n2 := CR_fr (fun c x hc => by rw [hF c x (by omega)]; exact v3 c x (by omega) (by omega)) C
      have p1 := CR_1 CF (show k < n1 by omega)
      have p2 := d157 (x := f k) W1 Z1 HF ha h1
      have p3 := d157 (x := f k) W2 Z2 HG hb h2
      have p4 := d160 (x := f k) W2 Z2 HG (show b ≤ n2 by omega)
      have to : ∀ {σ1 : Sg} {o : Rs}, (∀ d6, C30_18 a ae b be ((k + 1 : Nat) : Int) d6 σ1 o) → ∀ d6, C30_85 a ae b be k d6 σ1 o := by
        intro σ1 o hh d6
        refine b30_85 ⟨by omega, ?_⟩
        rw [show (k : Int) + 1 = ((k + 1 : Nat) : Int) by omega]
        exact hh d6
      by_cases y : cnt f (f k) a (ae - a) = 1 ∧ cnt g (f k) b (be - b) = 1
      · have e1 : ptn f g a ae b be k = fnd g (f k) b (be - b) := by unfold ptn; rw [if_pos y]
        have h0 := (cnt_0 (f := g) (x := f k) (be - b) b).mp (by omega)
        rw [fnd_ext (be - b) (n2 - b) b (by omega) h0, ← e1] at p4
        have p5 := d148 (σ := σ) (a := 339) (i := (k : Int)) (v := ptn f g a ae b be k) ⟨r339, by rw [hF _ _ (by decide), v1, c339]; omega⟩
        rw [st_in (n := n1) (by rw [hF _ _ (by decide)]; exact v1) (by omega)] at p5
        obtain ⟨s, a1, a2, a3⟩ := ih (k + 1) (upS σ 340 k (ptn f g a ae b be k)) (by omega) (by omega) (fun c x hc => by rw [up_a hc]; exact hF c x hc) (fun x y1 y2 => by
          by_cases q : x = k
          · rw [q, up_s]
          · rw [up_k q]; exact h3 x y1 (by omega)) (fun x y1 y2 => by rw [up_k (by omega)]; exact h4 x (by omega) y2)
        refine ⟨s, fun d6 => b30_18 ?_, a2, a3⟩
        rw [if_pos (by omega)]
        refine ⟨_, _, p1, _, _, p2, ?_⟩
        rw [if_pos y.1]
        refine ⟨_, _, p3, ?_⟩
        rw [if_pos y.2]
        exact ⟨_, _, p4, _, p5, to a1 _⟩
      · have e1 : ptn f g a ae b be k = -1 := by unfold ptn; rw [if_neg y]
        obtain ⟨s, a1, a2, a3⟩ := ih (k + 1) σ (by omega) (by omega) hF (fun x y1 y2 => by
          by_cases q : x = k
          · rw [q, e1]; exact h4 k (Nat.le_refl k) (by omega)
          · exact h3 x y1 (by omega)) (fun x y1 y2 => h4 x (by omega) y2)
        refine ⟨s, fun d6 => b30_18 ?_, a2, a3⟩
        rw [if_pos (by omega)]
        refine ⟨_, _, p1, _, _, p2, ?_⟩
        by_cases y1 : cnt f (f k) a (ae - a) = 1
        · rw [if_pos y1]
          refine ⟨_, _, p3, ?_⟩
          rw [if_neg (fun e => y ⟨y1, e⟩)]
          exact to a1 _
        · rw [if_neg y1]
          exact to a1 _
  obtain ⟨s, a1, a2, a3⟩ := L (ae - a) a s0 (by omega) (Nat.le_refl a) (fun _ _ _ => rfl) (fun x y1 y2 => by omega) (fun x y1 y2 => v2 x (by omega))
  exact ⟨s, b30 ⟨_, _, q1, _, q2, a1 _⟩, by rw [a3 _ _ (by decide)]; exact v1, a2, fun c x y1 y2 => by rw [a3 c x y2]; exact v3 c x y1 y2⟩
/-- the longest tails -/
def mxt (P T : Nat → Int) (v : Int) : Nat → Nat → Int → Int
  | _, 0, acc => acc
  | k, d + 1, acc => mxt P T v (k + 1) d (if v < P k then mxI acc (T k) else acc)
def tls (P : Nat → Int) (ae : Nat) : Nat → (Nat → Int)
  | 0 => fun _ => 0
  | d + 1 => fun x => if x = ae - (d + 1) then (if P (ae - (d + 1)) = -1 then 0 else mxt P (tls P ae d) (P (ae - (d + 1))) (ae - d) d 0 + 1) else tls P ae d x
def lgs (P : Nat → Int) (ae : Nat) : Nat → Int
  | 0 => 0
  | d + 1 => if P (ae - (d + 1)) = -1 then lgs P ae d else mxI (lgs P ae d) (mxt P (tls P ae d) (P (ae - (d + 1))) (ae - d) d 0 + 1)
theorem mxt_b {P T : Nat → Int} {v B : Int} : ∀ (d k : Nat) (acc : Int), 0 ≤ acc → acc ≤ B → (∀ x, k ≤ x → x < k + d → T x ≤ B) → 0 ≤ mxt P T v k d acc ∧ mxt P T v k d acc ≤ B := by
  intro d
  induction d with
  | zero => intro k acc h0 h1 _; exact ⟨h0, h1⟩
  | succ d ih =>
    intro k acc h0 h1 h2
    have hk := h2 k (Nat.le_refl k) (by omega)
    show 0 ≤ mxt P T v (k + 1) d (if v < P k then mxI acc (T k) else acc) ∧ mxt P T v (k + 1) d (if v < P k then mxI acc (T k) else acc) ≤ B
    refine ih (k + 1) _ ?_ ?_ (fun x y1 y2 => h2 x (by omega) (by omega))
    · unfold mxI
      split
      · split <;> omega
      · exact h0
    · unfold mxI
      split
      · split <;> omega
      · exact h1
theorem tls_b {P : Nat → Int} {ae : Nat} : ∀ (d x : Nat), 0 ≤ tls P ae d x ∧ tls P ae d x ≤ (d : Int) := by
  intro d
  induction d with
  | zero =>
    intro x
    show 0 ≤ (0 : Int) ∧ (0 : Int) ≤ ((0 : Nat) : Int)
    omega
  | succ d ih =>
    intro x
    have m := mxt_b (P := P) (T := tls P ae d) (v := P (ae - (d + 1))) (B := (d : Int)) d (ae - d) 0 (by omega) (by omega) (fun x _ _ => (ih x).2)
    have i := ih x
    show 0 ≤ (if x = ae - (d + 1) then (if P (ae - (d + 1)) = -1 then (0 : Int) else mxt P (tls P ae d) (P (ae - (d + 1))) (ae - d) d 0 + 1) else tls P ae d x) ∧ (if x = ae - (d + 1) then (if P (ae - (d + 1)) = -1 then (0 : Int) else mxt P (tls P ae d) (P (ae - (d + 1))) (ae - d) d 0 + 1) else tls P ae d x) ≤ ((d + 1 : Nat) : Int)
    split
    · split <;> omega
    · omega
/-- longestTail -/
theorem d31 {σ0 : Sg} {f g P : Nat → Int} {n1 n2 a ae : Nat} (C : CR σ0 f g n1 n2) (ha : a ≤ ae) (h1 : ae ≤ n1) (z339 : σ0 339 1 = (n1 : Nat)) (hP : ∀ k, a ≤ k → k < ae → σ0 340 k = P k) : ∃ s, Dd 31 [vA 332, vI a, vI ae] σ0 (rI (lgs P ae (ae - a)) s) ∧ s 341 1 = (n1 : Nat) ∧ (∀ k, a ≤ k → k < ae → s 342 k = tls P ae (ae - a) k) ∧ ∀ c x, ¬ c = 341 → ¬ c = 342 → s c x = σ0 c x := by
  obtain ⟨r339, c339, r341, c341⟩ := cpC2
  obtain ⟨h40, h40', w1, w2, w3, z1, z2, z3, hf, hg⟩ := C
  have q1 := d146 (σ := σ0) w1.1
  rw [z1] at q1
  have q2 := d153 (σ := σ0) (a := 341) (n := (n1 : Int)) (v := 0) r341
  have v1 : flS σ0 341 (n1 : Int) 0 341 1 = (n1 : Nat) := fl_sz (by omega) (by rw [c341]; omega)
  have v2 : ∀ k : Nat, k < n1 → flS σ0 341 (n1 : Int) 0 342 k = 0 := fun k hk => fl_val (a := 341) (by omega) (by rw [c341]; omega) (by omega)
  have v3 : ∀ c x, ¬ c = 341 → ¬ c = 342 → flS σ0 341 (n1 : Int) 0 c x = σ0 c x := fun c x y1 y2 => fl_off y1 y2
  generalize flS σ0 341 (n1 : Int) 0 = s0 at q2 v1 v2 v3
  have rP : ∀ (σ : Sg) (k : Nat), (∀ c x, ¬ c = 342 → σ c x = s0 c x) → a ≤ k → k < ae → Dd 147 [vA 339, vI k] σ (rI (P k) σ) := by
    intro σ k hF y1 y2
    have e := d147 (σ := σ) (a := 339) (i := (k : Int)) ⟨r339, by rw [hF _ _ (by decide), v3 _ _ (by decide) (by decide), z339, c339]; omega⟩
    have e2 : atS σ 339 (k : Int) = P k := by
      unfold atS
      rw [hF _ _ (by decide), v3 _ _ (by decide) (by decide), z339, if_pos (by omega), tn, hF _ _ (by decide), v3 _ _ (by decide) (by decide)]
      exact hP k y1 y2
    rw [e2] at e
    exact e
  have L : ∀ (d : Nat) (σ : Sg), a + d ≤ ae → (∀ c x, ¬ c = 342 → σ c x = s0 c x) → (∀ x, a ≤ x → x < ae → σ 342 x = tls P ae (ae - (a + d)) x) → ∃ s, (∀ d5 d6, C31_22 a ae (lgs P ae (ae - (a + d))) (((a + d : Nat) : Int) - 1) d5 d6 σ (rI (lgs P ae (ae - a)) s)) ∧ (∀ x, a ≤ x → x < ae → s 342 x = tls P ae (ae - a) x) ∧ ∀ c x, ¬ c = 342 → s c x = s0 c x := by
    intro d
    induction d with
    | zero =>
      intro σ hd hF hT
      refine ⟨σ, fun d5 d6 => b31_22 ?_, hT, hF⟩
      rw [if_neg (by omega), Nat.add_zero]
    | succ d ih =>
      intro σ hd hF hT
      obtain ⟨i, hi⟩ : ∃ i, i = a + d := ⟨_, rfl⟩
      obtain ⟨e, he⟩ : ∃ e, e = ae - (a + (d + 1)) := ⟨_, rfl⟩
      have ee : ae - (a + d) = e + 1 := by omega
      have ei : ae - (e + 1) = i := by omega
      rw [← he] at hT ⊢
      rw [ee] at ih
      obtain ⟨m, hm⟩ : ∃ m, m = mxt P (tls P ae e) (P i) (ae - e) e 0 := ⟨_, rfl⟩
      have bm := mxt_b (P := P) (T := tls P ae e) (v := P i) (B := (e : Int)) e (ae - e) 0 (by omega) (by omega) (fun x _ _ => (tls_b e x).2)
      rw [← hm] at bm
      have t1 : ∀ x, tls P ae (e + 1) x = if x = i then (if P i = -1 then 0 else m + 1) else tls P ae e x := by
        intro x
        show (if x = ae - (e + 1) then (if P (ae - (e + 1)) = -1 then (0 : Int) else mxt P (tls P ae e) (P (ae - (e + 1))) (ae - e) e 0 + 1) else tls P ae e x) = _
        rw [ei, ← hm]
      have t2 : lgs P ae (e + 1) = if P i = -1 then lgs P ae e else mxI (lgs P ae e) (m + 1) := by
        show (if P (ae - (e + 1)) = -1 then lgs P ae e else mxI (lgs P ae e) (mxt P (tls P ae e) (P (ae - (e + 1))) (ae - e) e 0 + 1)) = _
        rw [ei, ← hm]
      -- the later lines
      have I : ∀ (q k : Nat) (acc : Int) {o : Rs}, k + q = ae → i < k → 0 ≤ acc → acc ≤ 100 → m = mxt P (tls P ae e) (P i) k q acc → C31_37 a ae (lgs P ae e) i m ae σ o → C31_37 a ae (lgs P ae e) i acc k σ o := by
        intro q
        induction q with
        | zero =>
          intro k acc o hk _ _ _ hmm hh
          have e1 : k = ae := by omega
          have e2 : m = acc := hmm
          rw [e1, ← e2]
          exact hh
        | succ q ihq =>
          intro k acc o hk hik h0 h100 hmm hh
          have e341 := d147 (σ := σ) (a := 341) (i := (k : Int)) ⟨r341, by rw [hF _ _ (by decide), v1, c341]; omega⟩
          have e2 : atS σ 341 (k : Int) = tls P ae e k := by
            unfold atS
            rw [hF _ _ (by decide), v1, if_pos (by omega), tn]
            exact hT k (by omega) (by omega)
          rw [e2] at e341
          have bt := tls_b (P := P) (ae := ae) e k
          have hm2 : m = mxt P (tls P ae e) (P i) (k + 1) q (if P i < P k then mxI acc (tls P ae e k) else acc) := hmm
          refine b31_37 ?_
          rw [if_pos (by omega)]
          refine ⟨_, _, rP σ k hF (by omega) (by omega), _, _, rP σ i hF (by omega) (by omega), ?_⟩
          have to : ∀ acc', acc' = (if P i < P k then mxI acc (tls P ae e k) else acc) → C31_80 a ae (lgs P ae e) i acc' k σ o := by
            intro acc' ha'
            refine b31_80 ⟨by omega, ?_⟩
            rw [show (k : Int) + 1 = ((k + 1 : Nat) : Int) by omega]
            refine ihq (k + 1) acc' (by omega) (by omega) ?_ ?_ (by rw [ha']; exact hm2) hh
            · rw [ha']
              unfold mxI
              split
              · split <;> omega
              · exact h0
            · rw [ha']
              unfold mxI
              split
              · split <;> omega
              · exact h100
          by_cases y : P i < P k
          · rw [if_pos y]
            refine ⟨_, _, e341, to _ ?_⟩
            rw [if_pos y]
            rfl
          · rw [if_neg y]
            refine to _ ?_
            rw [if_neg y]
      have e339 := rP σ i hF (by omega) (by omega)
      by_cases y : P i = -1
      · obtain ⟨s, a1, a2, a3⟩ := ih σ (by omega) hF (fun x y1 y2 => by
          rw [hT x y1 y2, t1]
          by_cases q : x = i
          · rw [if_pos q, if_pos y, q]
            have : ∀ (e' : Nat), ae - e' > i → e' ≤ ae → tls P ae e' i = 0 := by
              intro e'
              induction e' with
              | zero => intro _ _; rfl
              | succ e' ihe =>
                intro h1 h2
                show (if i = ae - (e' + 1) then _ else tls P ae e' i) = 0
                rw [if_neg (by omega)]
                exact ihe (by omega) (by omega)
            exact this e (by omega) (by omega)
          · rw [if_neg q])
        refine ⟨s, fun d5 d6 => b31_22 ?_, a2, a3⟩
        rw [show ((a + (d + 1) : Nat) : Int) - 1 = (i : Int) by omega, if_pos (by omega), show (i : Int) + 1 = ((i + 1 : Nat) : Int) by omega]
        refine ⟨by omega, I e (i + 1) 0 (by omega) (by omega) (by omega) (by omega) (by rw [show i + 1 = ae - e by omega]; exact hm) (b31_37 ?_)⟩
        rw [if_neg (by omega)]
        refine ⟨_, _, e339, ?_⟩
        rw [if_pos y]
        refine b31_121 ⟨by omega, ?_⟩
        have z := a1 (some (vI m)) (some (vI (ae : Nat)))
        rw [t2, if_pos y, ← hi] at z
        rw [show (i : Int) + (-1) = (i : Int) - 1 by omega]
        exact z
      · obtain ⟨s, a1, a2, a3⟩ := ih (upS σ 342 i (m + 1)) (by omega) (fun c x hc => by rw [up_a hc]; exact hF c x hc) (fun x y1 y2 => by
          rw [t1]
          by_cases q : x = i
          · rw [if_pos q, if_neg y, q, up_s]
          · rw [if_neg q, up_k q]; exact hT x y1 y2)
        have e148 := d148 (σ := σ) (a := 341) (i := (i : Int)) (v := m + 1) ⟨r341, by rw [hF _ _ (by decide), v1, c341]; omega⟩
        rw [st_in (n := n1) (by rw [hF _ _ (by decide)]; exact v1) (by omega)] at e148
        refine ⟨s, fun d5 d6 => b31_22 ?_, a2, a3⟩
        rw [show ((a + (d + 1) : Nat) : Int) - 1 = (i : Int) by omega, if_pos (by omega), show (i : Int) + 1 = ((i + 1 : Nat) : Int) by omega]
        refine ⟨by omega, I e (i + 1) 0 (by omega) (by omega) (by omega) (by omega) (by rw [show i + 1 = ae - e by omega]; exact hm) (b31_37 ?_)⟩
        rw [if_neg (by omega)]
        refine ⟨_, _, e339, ?_⟩
        rw [if_neg y]
        refine ⟨by omega, _, e148, by omega, b31_121 ⟨by omega, ?_⟩⟩
        have z := a1 (some (vI m)) (some (vI (ae : Nat)))
        rw [t2, if_neg y, ← hi] at z
        unfold mxI at z
        rw [show (i : Int) + (-1) = (i : Int) - 1 by omega]
        exact z
  obtain ⟨s, a1, a2, a3⟩ := L (ae - a) s0 (by omega) (fun _ _ _ => rfl) (fun x y1 y2 => by
    rw [show ae - (a + (ae - a)) = 0 by omega]
    exact v2 x (by omega))
  refine ⟨s, b31 ⟨_, _, q1, _, q2, by omega, ?_⟩, by rw [a3 _ _ (by decide)]; exact v1, a2, fun c x y1 y2 => by rw [a3 c x y2]; exact v3 c x y1 y2⟩
  have z := a1 none none
  rw [show ae - (a + (ae - a)) = 0 by omega, show a + (ae - a) = ae by omega] at z
  exact z
end
