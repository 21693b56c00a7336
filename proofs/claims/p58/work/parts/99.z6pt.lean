/-! A patch put on a text: the class's side. -/
noncomputable section
/-- where all hunks are put -/
def puF (X T : Nat → Int) (nb n fz : Nat) (l : List St) : List St → Nat → Int → Nat → List (Int × Nat)
  | [], _, _, _ => []
  | q :: r, h, b, least => hpF X T nb n fz l h q (q.1 + b) least :: (if (hpF X T nb n fz l h q (q.1 + b) least).1 = -1 then puF X T nb n fz l r (h + 1) b least else puF X T nb n fz l r (h + 1) ((hpF X T nb n fz l h q (q.1 + b) least).1 - q.1) ((hpF X T nb n fz l h q (q.1 + b) least).1.toNat + q.2.1))
/-- what comes of the text -/
def mdF (T N : Nat → Int) (n : Nat) : List St → List (Int × Nat) → Nat → List Int
  | q :: r, z :: zs, a => if z.1 = -1 then mdF T N n r zs a else rlZ T a (z.1.toNat - a) ++ (rlZ N q.2.2.1 q.2.2.2 ++ mdF T N n r zs (z.1.toNat + q.2.1))
  | [], _, a => rlZ T a (n - a)
  | _ :: _, [], a => rlZ T a (n - a)
def okZ (n fz : Nat) : List St → List (Int × Nat) → Nat → Prop
  | [], zs, a => zs = [] ∧ a ≤ n
  | _ :: _, [], _ => False
  | q :: r, z :: zs, a => a ≤ n ∧ ((z.1 = -1 ∧ okZ n fz r zs a) ∨ (¬ z.1 = -1 ∧ (a : Int) ≤ z.1 ∧ z.1 + q.2.1 ≤ n ∧ z.2 ≤ fz ∧ okZ n fz r zs (z.1.toNat + q.2.1)))
theorem puF_ok {X T : Nat → Int} {nb n fz : Nat} {l : List St} : ∀ (r : List St) (h : Nat) (b : Int) (least : Nat), least ≤ n → okZ n fz r (puF X T nb n fz l r h b least) least := by
  intro r
  induction r with
  | nil => intro h b least hl; exact ⟨rfl, hl⟩
  | cons q r ih =>
    intro h b least hl
    refine ⟨hl, ?_⟩
    by_cases y : (hpF X T nb n fz l h q (q.1 + b) least).1 = -1
    · rw [if_pos y]
      exact Or.inl ⟨y, ih (h + 1) b least hl⟩
    · rw [if_neg y]
      obtain ⟨z1, z2, z3⟩ := hp_in y
      exact Or.inr ⟨y, z1, z2, z3, ih _ _ _ (by omega)⟩
theorem mdF_len {T N F : Nat → Int} {nb na n fz : Nat} : ∀ (r : List St) (zs : List (Int × Nat)) (a i j e : Nat), DS F nb na r i j e → okZ n fz r zs a → (mdF T N n r zs a).length ≤ (n - a) + (na - j) := by
  intro r
  induction r with
  | nil =>
    intro zs a i j e D Z
    show (rlZ T a (n - a)).length ≤ _
    rw [rl_len]
    omega
  | cons q r ih =>
    intro zs a i j e D Z
    cases zs with
    | nil => exact absurd Z id
    | cons z zs =>
      obtain ⟨d1, d2, d3, d4, d5, d6⟩ := D
      have hb := DS_b r _ _ _ d6
      obtain ⟨z0, Z⟩ := Z
      show (if z.1 = -1 then mdF T N n r zs a else rlZ T a (z.1.toNat - a) ++ (rlZ N q.2.2.1 q.2.2.2 ++ mdF T N n r zs (z.1.toNat + q.2.1))).length ≤ _
      rcases Z with ⟨z1, z2⟩ | ⟨z1, z2, z3, z4, z5⟩
      · rw [if_pos z1]
        have y := ih zs a _ _ _ d6 z2
        omega
      · rw [if_neg z1, List.length_append, List.length_append, rl_len, rl_len]
        have y := ih zs _ _ _ _ d6 z5
        omega
theorem rl_td {f : Nat → Int} {n x y : Nat} (hxy : x ≤ y) (hy : y ≤ n) : ((rlZ f 0 n).take y).drop x = rlZ f x (y - x) := by
  apply List.ext_getElem?
  intro k
  rw [List.getElem?_drop]
  by_cases h : x + k < y
  · rw [List.getElem?_take_of_lt h, rl_get n 0 (x + k) (by omega), rl_get (y - x) x k (by omega), Nat.zero_add]
  · rw [List.getElem?_eq_none (by rw [List.length_take]; omega), List.getElem?_eq_none (by rw [rl_len]; omega)]
theorem RV_Rw {σ : Sg} {R n : Nat} {f : Nat → Int} (V : RV σ R n f) : Rw σ R (rlZ f 0 n) := by
  refine ⟨by rw [rl_len]; exact V.2.1, fun i v h => ?_⟩
  have hi := (List.getElem?_eq_some_iff.mp h).1
  rw [rl_len] at hi
  rw [rl_get n 0 i hi, Nat.zero_add] at h
  cases h
  exact V.2.2 i hi
/-- a stretch of a row added -/
theorem ap154 {A R n x y : Nat} {f : Nat → Int} {σ : Sg} {la : List Int} (hA : isRow A = true) (V : RV σ R n f) (L : Rw σ A la) (hne : ¬ A = R) (hxy : x ≤ y) (hy : y ≤ n) (hl : la.length + (y - x) ≤ cap A) : ∃ s, Dd 154 [vA A, vA R, vI x, vI y] σ (rV s) ∧ Rw s A (la ++ rlZ f x (y - x)) ∧ ∀ c k, ¬ c = A → ¬ c = A + 1 → s c k = σ c k := by
  have w2 := V.1.2.2
  have n1 := V.2.1
  obtain ⟨s, g1, g2, g3⟩ := d154 (x := (x : Int)) (y := (y : Int)) hA V.1.1 L (RV_Rw V) (by rw [rl_len]; omega) hne (by
    rw [tn, tn, rl_td hxy hy, rl_len]
    exact hl)
  rw [tn, tn, rl_td hxy hy] at g2
  exact ⟨s, g1, g2, g3⟩
/-- rows that no putting writes -/
theorem rwP : isRow 393 = true ∧ isRow 395 = true ∧ isRow 397 = true ∧ cap 393 = 17 ∧ cap 395 = 17 ∧ cap 397 = 96 := by decide +kernel
theorem PC_f9 {σ s : Sg} {P : Nat} {l : List St} (h : ∀ c k, P + 9 ≤ c ∧ c ≤ P + 10 → s c k = σ c k) (C : PC σ P l) : PC s P l := by
  refine ⟨by rw [h _ _ (by omega)]; exact C.1, fun x q hq => ?_, C.2.2⟩
  rw [h _ _ (by omega), h _ _ (by omega), h _ _ (by omega), h _ _ (by omega)]
  exact C.2.1 x q hq
theorem l138 {P t nb na n fz : Nat} {F X T : Nat → Int} {l : List St} (hP : isPatch P = true) (hPl : P + 12 < 392) (ht : isRow t = true) (htl : t < 390) (D : DS F nb na l 0 0 0) (h16 : n ≤ 16 ∧ nb ≤ 16) (hl17 : l.length ≤ 17) (hf : fz ≤ 3) : ∀ (r : List St) (h : Nat) (b : Int) (least : Nat) (La : List Int) (σ : Sg), l.drop h = r → WF σ → PC σ P l → RV σ (P + 1) nb X → RV σ t n T → Rw σ 395 La → La.length = h → -16 ≤ b ∧ b ≤ 16 → least ≤ n → ∃ s, (∀ d7 d8 d9, C138_16 P t fz b least h d7 d8 d9 σ (rV s)) ∧ WF s ∧ Rw s 395 (La ++ (puF X T nb n fz l r h b least).map anI) ∧ ∀ c k, ¬ c = 395 → ¬ c = 396 → s c k = σ c k := by
  intro r
  induction r with
  | nil =>
    intro h b least La σ hr w C VX VT R hLa hb hls
    have e0 := d98' hP C
    have hge : l.length ≤ h := List.drop_eq_nil_iff.mp hr
    refine ⟨σ, fun d7 d8 d9 => b138_16 hP ⟨_, _, e0, ?_⟩, w, by show Rw σ 395 (La ++ []); rw [List.append_nil]; exact R, fun _ _ _ _ => rfl⟩
    rw [if_neg (by omega)]
  | cons q r ih =>
    intro h b least La σ hr w C VX VT R hLa hb hls
    have hq : l[h]? = some q := by
      have z := congrArg (fun m => m[0]?) hr
      simp only [List.getElem?_drop, Nat.add_zero] at z
      exact z
    have hlt := (List.getElem?_eq_some_iff.mp hq).1
    have hr2 : l.drop (h + 1) = r := by
      have z := congrArg List.tail hr
      rw [List.tail_drop] at z
      exact z
    have hbd := (DS_b l 0 0 0 D).2.2 q (List.mem_of_getElem? hq)
    obtain ⟨q1, q2, q3, q4, q5, q6⟩ := rwP
    have e0 := d98' hP C
    obtain ⟨e1, -, -, -⟩ := pc_at hP (WF_w w (pat_9 hP)) C hq
    have e2 := d139 (ex := (q.1 : Int) + b) (least := least) (fz := fz) hP ht (WF_w w (pat_9 hP)) C D hq VX VT h16 (by omega) (by omega) hf
    obtain ⟨z, hz⟩ : ∃ z, z = hpF X T nb n fz l h q ((q.1 : Int) + b) least := ⟨_, rfl⟩
    rw [← hz] at e2
    have e3 := d149 (σ := σ) (a := 395) (v := anI z) (WF_w w q2)
    have fr : ∀ c k, ¬ c = 395 → ¬ c = 396 → adS σ 395 (anI z) c k = σ c k := fun c k y1 y2 => ad_off y1 y2
    have w2 : WF (adS σ 395 (anI z)) := WF_ad q2 w
    have C2 : PC (adS σ 395 (anI z)) P l := PC_f9 (fun c k hc => fr c k (by omega) (by omega)) C
    have VX2 : RV (adS σ 395 (anI z)) (P + 1) nb X := RV_fr (fun k => fr _ k (by omega) (by omega)) (fun k => fr _ k (by omega) (by omega)) VX
    have VT2 : RV (adS σ 395 (anI z)) t n T := RV_fr (fun k => fr _ k (by omega) (by omega)) (fun k => fr _ k (by omega) (by omega)) VT
    have R2 : Rw (adS σ 395 (anI z)) 395 (La ++ [anI z]) := Rw_ad R (by omega)
    have e4 := (pc_at2 hP (WF_w w2 (pat_9 hP)) C2 hq).1
    have ep : puF X T nb n fz l (q :: r) h b least = z :: (if z.1 = -1 then puF X T nb n fz l r (h + 1) b least else puF X T nb n fz l r (h + 1) (z.1 - q.1) (z.1.toNat + q.2.1)) := by rw [hz]; rfl
    rw [ep]
    by_cases y : z.1 = -1
    · rw [if_pos y]
      obtain ⟨s, a1, a2, a3, a4⟩ := ih (h + 1) b least (La ++ [anI z]) _ hr2 w2 C2 VX2 VT2 R2 (by rw [List.length_append, hLa]; rfl) hb hls
      refine ⟨s, fun d7 d8 d9 => b138_16 hP ⟨_, _, e0, ?_⟩, a2, by rw [List.append_assoc] at a3; exact a3, fun c k y1 y2 => by rw [a4 c k y1 y2]; exact fr c k y1 y2⟩
      rw [if_pos (by omega)]
      refine ⟨_, _, e1, by omega, _, _, e2, _, e3, ?_⟩
      rw [if_pos (by unfold anI; rw [if_pos y])]
      refine b138_90 ⟨by omega, ?_⟩
      rw [show (h : Int) + 1 = ((h + 1 : Nat) : Int) by omega]
      exact a1 _ _ _
    · rw [if_neg y]
      have zi := hp_in (by rw [← hz]; exact y)
      rw [← hz] at zi
      obtain ⟨z1, z2, z3⟩ := zi
      obtain ⟨s, a1, a2, a3, a4⟩ := ih (h + 1) (z.1 - q.1) (z.1.toNat + q.2.1) (La ++ [anI z]) _ hr2 w2 C2 VX2 VT2 R2 (by rw [List.length_append, hLa]; rfl) (by omega) (by omega)
      have ea : anI z = 10 * z.1 + (z.2 : Int) := by unfold anI; rw [if_neg y]
      have et : Int.tdiv (anI z) 10 = z.1 := by rw [ea, td (by omega)]; omega
      refine ⟨s, fun d7 d8 d9 => b138_16 hP ⟨_, _, e0, ?_⟩, a2, by rw [List.append_assoc] at a3; exact a3, fun c k y1 y2 => by rw [a4 c k y1 y2]; exact fr c k y1 y2⟩
      rw [if_pos (by omega)]
      refine ⟨_, _, e1, by omega, _, _, e2, _, e3, ?_⟩
      rw [if_neg (by omega), et]
      refine ⟨by omega, _, _, e4, by omega, b138_90 ⟨by omega, ?_⟩⟩
      rw [show (h : Int) + 1 = ((h + 1 : Nat) : Int) by omega, show z.1 + ((q.2.1 : Nat) : Int) = ((z.1.toNat + q.2.1 : Nat) : Int) by omega]
      exact a1 _ _ _
theorem l142 {P t nb na n fz : Nat} {F T N : Nat → Int} {l : List St} {A : List Int} (hP : isPatch P = true) (hPl : P + 12 < 392) (ht : isRow t = true) (htl : t < 390) (D : DS F nb na l 0 0 0) (h16 : n ≤ 16 ∧ nb ≤ 16 ∧ na ≤ 16) (hA : A.length = l.length) (hl17 : l.length ≤ 17) (hf : fz ≤ 3) : ∀ (r : List St) (h : Nat) (zs : List (Int × Nat)) (a : Nat) (Ma : List Int) (σ : Sg), l.drop h = r → A.drop h = zs.map anI → okZ n fz r zs a → WF σ → PC σ P l → RV σ (P + 3) na N → RV σ t n T → Rw σ 395 A → Rw σ 397 Ma → Ma.length + (mdF T N n r zs a).length ≤ 96 → ∃ s, (∀ d5, C142_12 P t a h d5 σ (rV s)) ∧ Rw s 397 (Ma ++ mdF T N n r zs a) ∧ ∀ c k, ¬ c = 397 → ¬ c = 398 → s c k = σ c k := by
  intro r
  obtain ⟨q1, q2, q3, q4, q5, q6⟩ := rwP
  induction r with
  | nil =>
    intro h zs a Ma σ hr hz Z w C VN VT RA RM hlen
    have hge : l.length ≤ h := List.drop_eq_nil_iff.mp hr
    have e0 := d146 (σ := σ) q2
    rw [RA.1] at e0
    have e1 := RV_146 VT
    have em : mdF T N n [] zs a = rlZ T a (n - a) := rfl
    rw [em] at hlen ⊢
    rw [rl_len] at hlen
    obtain ⟨s, g1, g2, g3⟩ := ap154 (A := 397) (x := a) (y := n) q3 VT RM (by omega) Z.2 (Nat.le_refl _) (by omega)
    refine ⟨s, fun d5 => b142_12 hP ht ⟨_, _, e0, ?_⟩, g2, g3⟩
    rw [if_neg (by omega)]
    exact ⟨_, _, e1, _, g1, rfl⟩
  | cons q r ih =>
    intro h zs a Ma σ hr hz Z w C VN VT RA RM hlen
    cases zs with
    | nil => exact absurd Z id
    | cons z zs =>
      have hq : l[h]? = some q := by
        have y := congrArg (fun m => m[0]?) hr
        simp only [List.getElem?_drop, Nat.add_zero] at y
        exact y
      have hlt := (List.getElem?_eq_some_iff.mp hq).1
      have hr2 : l.drop (h + 1) = r := by
        have y := congrArg List.tail hr
        rw [List.tail_drop] at y
        exact y
      have hv : A[h]? = some (anI z) := by
        have y := congrArg (fun m => m[0]?) hz
        simp only [List.getElem?_drop, Nat.add_zero] at y
        exact y
      have hz2 : A.drop (h + 1) = zs.map anI := by
        have y := congrArg List.tail hz
        rw [List.tail_drop] at y
        exact y
      have hbd := (DS_b l 0 0 0 D).2.2 q (List.mem_of_getElem? hq)
      have e0 := d146 (σ := σ) q2
      rw [RA.1] at e0
      have e1 := d147 (σ := σ) (a := 395) (i := (h : Int)) (WF_w w q2)
      rw [at_1 RA.1 (by omega), RA.2 _ _ hv] at e1
      obtain ⟨z0, Z⟩ := Z
      have em : mdF T N n (q :: r) (z :: zs) a = if z.1 = -1 then mdF T N n r zs a else rlZ T a (z.1.toNat - a) ++ (rlZ N q.2.2.1 q.2.2.2 ++ mdF T N n r zs (z.1.toNat + q.2.1)) := rfl
      rw [em] at hlen ⊢
      rcases Z with ⟨z1, z2⟩ | ⟨z1, z2, z3, z4, z5⟩
      · rw [if_pos z1] at hlen ⊢
        obtain ⟨s, a1, a2, a3⟩ := ih (h + 1) zs a Ma σ hr2 hz2 z2 w C VN VT RA RM hlen
        refine ⟨s, fun d5 => b142_12 hP ht ⟨_, _, e0, ?_⟩, a2, a3⟩
        rw [if_pos (by omega)]
        refine ⟨_, _, e1, ?_⟩
        rw [if_pos (by unfold anI; rw [if_pos z1])]
        refine b142_95 ⟨by omega, ?_⟩
        rw [show (h : Int) + 1 = ((h + 1 : Nat) : Int) by omega]
        exact a1 _
      · rw [if_neg z1] at hlen ⊢
        rw [List.length_append, List.length_append, rl_len, rl_len] at hlen
        have ea : anI z = 10 * z.1 + (z.2 : Int) := by unfold anI; rw [if_neg z1]
        obtain ⟨p, hp⟩ := Int.eq_ofNat_of_zero_le (show 0 ≤ z.1 by omega)
        have et : Int.tdiv (anI z) 10 = (p : Int) := by rw [ea, td (by omega)]; omega
        rw [hp, tn] at hlen ⊢
        rw [hp, tn] at z5
        obtain ⟨s1, g1, g2, g3⟩ := ap154 (A := 397) (x := a) (y := p) q3 VT RM (by omega) (by omega) (by omega) (by omega)
        have w1 : WF s1 := WF_row (r := 397) (fun b hb hn => g3 b 1 hn (fun e => by subst e; exact row_nx q3 hb rfl)) (by rw [g2.1, List.length_append, rl_len]; omega) w
        have C1 : PC s1 P l := PC_f9 (fun c k hc => g3 c k (by omega) (by omega)) C
        have VN1 : RV s1 (P + 3) na N := RV_fr (fun k => g3 _ k (by omega) (by omega)) (fun k => g3 _ k (by omega) (by omega)) VN
        have VT1 : RV s1 t n T := RV_fr (fun k => g3 _ k (by omega) (by omega)) (fun k => g3 _ k (by omega) (by omega)) VT
        have RA1 : Rw s1 395 A := Rw_fr (g3 _ _ (by omega) (by omega)) (fun i => g3 _ _ (by omega) (by omega)) RA
        obtain ⟨-, -, e3, e4⟩ := pc_at hP (WF_w w1 (pat_9 hP)) C1 hq
        obtain ⟨s2, k1, k2, k3⟩ := ap154 (A := 397) (x := q.2.2.1) (y := q.2.2.1 + q.2.2.2) q3 VN1 g2 (by omega) (by omega) (by omega) (by rw [List.length_append, rl_len]; omega)
        rw [show q.2.2.1 + q.2.2.2 - q.2.2.1 = q.2.2.2 by omega] at k2
        have w2 : WF s2 := WF_row (r := 397) (fun b hb hn => k3 b 1 hn (fun e => by subst e; exact row_nx q3 hb rfl)) (by rw [k2.1, List.length_append, List.length_append, rl_len, rl_len]; omega) w1
        have C2 : PC s2 P l := PC_f9 (fun c k hc => k3 c k (by omega) (by omega)) C1
        have VN2 : RV s2 (P + 3) na N := RV_fr (fun k => k3 _ k (by omega) (by omega)) (fun k => k3 _ k (by omega) (by omega)) VN1
        have VT2 : RV s2 t n T := RV_fr (fun k => k3 _ k (by omega) (by omega)) (fun k => k3 _ k (by omega) (by omega)) VT1
        have RA2 : Rw s2 395 A := Rw_fr (k3 _ _ (by omega) (by omega)) (fun i => k3 _ _ (by omega) (by omega)) RA1
        have e5 := (pc_at2 hP (WF_w w2 (pat_9 hP)) C2 hq).1
        obtain ⟨s, a1, a2, a3⟩ := ih (h + 1) zs (p + q.2.1) (Ma ++ rlZ T a (p - a) ++ rlZ N q.2.2.1 q.2.2.2) s2 hr2 hz2 z5 w2 C2 VN2 VT2 RA2 k2 (by rw [List.length_append, List.length_append, rl_len, rl_len]; omega)
        refine ⟨s, fun d5 => b142_12 hP ht ⟨_, _, e0, ?_⟩, by rw [List.append_assoc, List.append_assoc] at a2; exact a2, fun c k y1 y2 => by rw [a3 c k y1 y2, k3 c k y1 y2]; exact g3 c k y1 y2⟩
        rw [if_pos (by omega)]
        refine ⟨_, _, e1, ?_⟩
        rw [if_neg (by omega)]
        refine ⟨_, _, e1, s1, by rw [et]; exact g1, _, _, e3, _, _, e4, s2, k1, _, _, e5, by rw [et]; omega, b142_95 ⟨by omega, ?_⟩⟩
        rw [et, show (h : Int) + 1 = ((h + 1 : Nat) : Int) by omega, show (p : Int) + ((q.2.1 : Nat) : Int) = ((p + q.2.1 : Nat) : Int) by omega]
        exact a1 _
/-- which are rejected -/
def rjF : List (Int × Nat) → Nat → Int → Int
  | [], _, S => S
  | z :: zs, h, S => rjF zs (h + 1) (if z.1 = -1 then iOr S (iShl 1 (h : Int)) else S)
theorem l137 {σ : Sg} {A : List Int} (w : WF σ) (RA : Rw σ 393 A) (hl : A.length ≤ 17) (hz : ∀ z : Int × Nat, True) : ∀ (zs : List (Int × Nat)) (h : Nat) (S : Int), A.drop h = zs.map anI → (∀ z, z ∈ zs → z.1 = -1 ∨ 0 ≤ z.1) → C137_4 S h σ (rI (rjF zs h S) σ) := by
  obtain ⟨q1, q2, q3, q4, q5, q6⟩ := rwP
  intro zs
  induction zs with
  | nil =>
    intro h S hz _
    have hge : A.length ≤ h := List.drop_eq_nil_iff.mp hz
    have e0 := d146 (σ := σ) q1
    rw [RA.1] at e0
    refine b137_4 ⟨_, _, e0, ?_⟩
    rw [if_neg (by omega)]
    rfl
  | cons z zs ih =>
    intro h S hz hp
    have hv : A[h]? = some (anI z) := by
      have y := congrArg (fun m => m[0]?) hz
      simp only [List.getElem?_drop, Nat.add_zero] at y
      exact y
    have hlt := (List.getElem?_eq_some_iff.mp hv).1
    have hz2 : A.drop (h + 1) = zs.map anI := by
      have y := congrArg List.tail hz
      rw [List.tail_drop] at y
      exact y
    have e0 := d146 (σ := σ) q1
    rw [RA.1] at e0
    have e1 := d147 (σ := σ) (a := 393) (i := (h : Int)) (WF_w w q1)
    rw [at_1 RA.1 hlt, RA.2 _ _ hv] at e1
    refine b137_4 ⟨_, _, e0, ?_⟩
    rw [if_pos (by omega)]
    refine ⟨_, _, e1, b137_33 ⟨by omega, ?_⟩⟩
    have y := ih (h + 1) (if z.1 = -1 then iOr S (iShl 1 (h : Int)) else S) hz2 (fun a ha => hp a (List.mem_cons_of_mem _ ha))
    have ei : (if anI z = -1 then iOr S (iShl 1 (h : Int)) else S) = (if z.1 = -1 then iOr S (iShl 1 (h : Int)) else S) := by
      have ha : anI z = -1 ↔ z.1 = -1 := by
        unfold anI
        by_cases e : z.1 = -1
        · rw [if_pos e]
          exact ⟨fun _ => e, fun _ => rfl⟩
        · rw [if_neg e]
          rcases hp z List.mem_cons_self with e2 | e2
          · exact absurd e2 e
          · exact ⟨fun _ => by omega, fun _ => by omega⟩
      by_cases e : z.1 = -1
      · rw [if_pos (ha.mpr e), if_pos e]
      · rw [if_neg (fun e2 => e (ha.mp e2)), if_neg e]
    rw [ei, show (h : Int) + 1 = ((h + 1 : Nat) : Int) by omega]
    exact y
theorem okZ_p {n fz : Nat} : ∀ (r : List St) (zs : List (Int × Nat)) (a : Nat), okZ n fz r zs a → (∀ z, z ∈ zs → z.1 = -1 ∨ (0 ≤ z.1 ∧ z.1 ≤ n ∧ z.2 ≤ fz)) ∧ zs.length = r.length := by
  intro r
  induction r with
  | nil => intro zs a Z; rw [Z.1]; exact ⟨fun z h => (by cases h), rfl⟩
  | cons q r ih =>
    intro zs a Z
    cases zs with
    | nil => exact absurd Z id
    | cons z zs =>
      obtain ⟨z0, Z⟩ := Z
      rcases Z with ⟨z1, z2⟩ | ⟨z1, z2, z3, z4, z5⟩
      · obtain ⟨i1, i2⟩ := ih zs a z2
        refine ⟨fun y hy => ?_, by rw [List.length_cons, List.length_cons, i2]⟩
        rcases List.mem_cons.mp hy with e | e
        · rw [e]; exact Or.inl z1
        · exact i1 y e
      · obtain ⟨i1, i2⟩ := ih zs _ z5
        refine ⟨fun y hy => ?_, by rw [List.length_cons, List.length_cons, i2]⟩
        rcases List.mem_cons.mp hy with e | e
        · rw [e]; exact Or.inr ⟨by omega, by omega, z4⟩
        · exact i1 y e
/-- changeText -/
theorem d136 {P t nb na n fz : Nat} {F X T N : Nat → Int} {l : List St} {σ : Sg} (hP : isPatch P = true) (hPl : P + 12 < 392) (ht : isRow t = true) (htl : t < 390) (hct : cap t = 16) (D : DS F nb na l 0 0 0) (h16 : n ≤ 16 ∧ nb ≤ 16 ∧ na ≤ 16) (hl17 : l.length ≤ 17) (hf : fz ≤ 3) (w : WF σ) (C : PC σ P l) (VX : RV σ (P + 1) nb X) (VN : RV σ (P + 3) na N) (VT : RV σ t n T) {Z : List (Int × Nat)} {M : List Int} (hZ : Z = puF X T nb n fz l l 0 0 0) (hM : M = mdF T N n l Z 0) : (16 < M.length → ∃ s, Dd 136 [vA 392, vA P, vA t, vI fz] σ (rI 0 s) ∧ WF s ∧ ∀ c k, ¬ (395 ≤ c ∧ c ≤ 398) → s c k = σ c k) ∧ (M.length ≤ 16 → ∃ s, Dd 136 [vA 392, vA P, vA t, vI fz] σ (rI 1 s) ∧ WF s ∧ Rw s 393 (Z.map anI) ∧ Rw s t M ∧ Dd 137 [vA 392] s (rI (rjF Z 0 0) s) ∧ ∀ c k, ¬ (393 ≤ c ∧ c ≤ 398) → ¬ c = t → ¬ c = t + 1 → s c k = σ c k) := by
  obtain ⟨q1, q2, q3, q4, q5, q6⟩ := rwP
  have okz : okZ n fz l Z 0 := by rw [hZ]; exact puF_ok l 0 0 0 (Nat.zero_le _)
  obtain ⟨okp, okl⟩ := okZ_p l Z 0 okz
  have hMl := mdF_len (T := T) (N := N) l Z 0 0 0 0 D okz
  rw [← hM] at hMl
  have w0 : WF (upS σ 395 1 0) := WF_0 q2 w
  have f0 : ∀ c k, ¬ c = 395 → upS σ 395 1 0 c k = σ c k := fun c k h => up_a h
  obtain ⟨s1, a1, a2, a3, a4⟩ := l138 (X := X) (T := T) (n := n) (nb := nb) (na := na) (F := F) (fz := fz) hP hPl ht htl D ⟨h16.1, h16.2.1⟩ hl17 hf l 0 0 0 [] (upS σ 395 1 0) rfl w0 (PC_f9 (fun c k hc => f0 c k (by omega)) C) (RV_fr (fun k => f0 _ k (by omega)) (fun k => f0 _ k (by omega)) VX) (RV_fr (fun k => f0 _ k (by omega)) (fun k => f0 _ k (by omega)) VT) Rw_nil rfl (by omega) (Nat.zero_le _)
  rw [List.nil_append, ← hZ] at a3
  have f1 : ∀ c k, ¬ c = 395 → ¬ c = 396 → s1 c k = σ c k := fun c k y1 y2 => by rw [a4 c k y1 y2]; exact f0 c k y1
  have w1 : WF (upS s1 397 1 0) := WF_0 q3 a2
  have f2 : ∀ c k, ¬ c = 395 → ¬ c = 396 → ¬ c = 397 → upS s1 397 1 0 c k = σ c k := fun c k y1 y2 y3 => by rw [up_a y3]; exact f1 c k y1 y2
  have RA2 : Rw (upS s1 397 1 0) 395 (Z.map anI) := Rw_fr (up_a (by decide)) (fun i => up_a (by decide)) a3
  obtain ⟨s2, b1, b2, b3⟩ := l142 (F := F) (T := T) (N := N) (n := n) (nb := nb) (na := na) (fz := fz) (A := Z.map anI) hP hPl ht htl D h16 (by rw [List.length_map, okl]) hl17 hf l 0 Z 0 [] (upS s1 397 1 0) rfl rfl okz w1 (PC_f9 (fun c k hc => f2 c k (by omega) (by omega) (by omega)) C) (RV_fr (fun k => f2 _ k (by omega) (by omega) (by omega)) (fun k => f2 _ k (by omega) (by omega) (by omega)) VN) (RV_fr (fun k => f2 _ k (by omega) (by omega) (by omega)) (fun k => f2 _ k (by omega) (by omega) (by omega)) VT) RA2 Rw_nil (by rw [← hM]; show 0 + M.length ≤ 96; omega)
  rw [List.nil_append, ← hM] at b2
  have f3 : ∀ c k, ¬ (395 ≤ c ∧ c ≤ 398) → s2 c k = σ c k := fun c k y => by rw [b3 c k (by omega) (by omega)]; exact f2 c k (by omega) (by omega) (by omega)
  have w2 : WF s2 := WF_row (r := 397) (fun b hb hn => b3 b 1 hn (fun e => by subst e; exact row_nx q3 hb rfl)) (by rw [b2.1]; omega) w1
  have e146 := d146 (σ := s2) q3
  rw [b2.1] at e146
  have e138 : Dd 138 [vA 392, vA P, vA t, vI fz] σ (rV s1) := b138 ⟨_, d152 q2, a1 none none none⟩
  have e142 : Dd 142 [vA 392, vA P, vA t] s1 (rV s2) := b142 ⟨_, d152 q3, b1 none⟩
  refine ⟨fun hlen => ⟨s2, b136 ht ⟨_, e138, _, e142, _, _, e146, ?_⟩, w2, f3⟩, fun hlen => ?_⟩
  · rw [if_pos (by omega)]
  · have RA3 : Rw s2 395 (Z.map anI) := Rw_fr (b3 _ _ (by omega) (by omega)) (fun i => b3 _ _ (by omega) (by omega)) RA2
    have hzl : (Z.map anI).length ≤ 17 := by rw [List.length_map, okl]; exact hl17
    have d1 := d155 (σ := s2) (a := 393) (b := 395) q1 (WF_w w2 q2)
    have c1 : s2 395 1 ≤ (cap 393 : Int) := by rw [RA3.1]; omega
    have R3 : Rw (bcS s2 393 395) 393 (Z.map anI) := ⟨by rw [bc_sz c1]; exact RA3.1, fun i v h => by
      have hi := (List.getElem?_eq_some_iff.mp h).1
      have y := bc_val (σ := s2) (a := 393) (b := 395) (k := i) c1 (by decide) (by rw [RA3.1]; omega)
      have y : bcS s2 393 395 394 i = s2 396 i := y
      show bcS s2 393 395 394 i = v
      rw [y]
      exact RA3.2 i v h⟩
    have w3 : WF (bcS s2 393 395) := WF_row (r := 393) (fun b hb hn => bc_off hn (fun e => by subst e; exact row_nx q1 hb rfl)) (by rw [R3.1]; omega) w2
    have R4 : Rw (bcS s2 393 395) 397 M := Rw_fr (bc_off (by decide) (by decide)) (fun i => bc_off (by decide) (by decide)) b2
    have d2 := d155 (σ := bcS s2 393 395) (a := t) (b := 397) ht (WF_w w3 q3)
    have c2 : bcS s2 393 395 397 1 ≤ (cap t : Int) := by rw [R4.1]; omega
    have R5 : Rw (bcS (bcS s2 393 395) t 397) t M := ⟨by rw [bc_sz c2]; exact R4.1, fun i v h => by
      have hi := (List.getElem?_eq_some_iff.mp h).1
      rw [bc_val c2 (by omega) (by rw [R4.1]; omega)]
      exact R4.2 i v h⟩
    have w4 : WF (bcS (bcS s2 393 395) t 397) := WF_row (r := t) (fun b hb hn => bc_off hn (fun e => by subst e; exact row_nx ht hb rfl)) (by rw [R5.1]; omega) w3
    have R6 : Rw (bcS (bcS s2 393 395) t 397) 393 (Z.map anI) := Rw_fr (bc_off (by omega) (by omega)) (fun i => bc_off (by omega) (by omega)) R3
    refine ⟨_, b136 ht ⟨_, e138, _, e142, _, _, e146, ?_⟩, w4, R6, R5, b137 (l137 w4 R6 hzl (fun _ => trivial) Z 0 0 rfl (fun z hz => by
      rcases okp z hz with e | e
      · exact Or.inl e
      · exact Or.inr e.1)), fun c k y1 y2 y3 => by rw [bc_off y2 y3, bc_off (by omega) (by omega)]; exact f3 c k (by omega)⟩
    rw [if_neg (by omega)]
    exact ⟨_, d1, _, d2, rfl⟩
end
