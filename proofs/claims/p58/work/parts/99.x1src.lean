/-! Which line a line was: formats only. -/
noncomputable section
theorem ifI {P Q : Prop} [Decidable P] [Decidable Q] (h : P ↔ Q) : (if P then (1 : Int) else 0) = if Q then 1 else 0 := by
  by_cases y : P
  · rw [if_pos y, if_pos (h.mp y)]
  · rw [if_neg y, if_neg (fun z => y (h.mpr z))]
def wdZ (x : Int) : Int := if mkP x then x else x % 10000
def hwZ (O N : Nat → Int) (o n : Nat) : Nat → Nat → Bool
  | 0, _ => true
  | w + 1, k => if wdZ (O (o + k)) = wdZ (N (n + k)) then hwZ O N o n w (k + 1) else false
def ofZ (O N : Nat → Int) : List St → Bool
  | [] => true
  | q :: t => if q.2.1 = q.2.2.2 ∧ hwZ O N q.1 q.2.2.1 q.2.1 0 = true then ofZ O N t else false
/-- hasSameWords -/
theorem d124 {σ : Sg} {P nb na h o d n a : Nat} {O N : Nat → Int} {l : List St} (hP : isPatch P = true) (V1 : RV σ (P + 1) nb O) (V3 : RV σ (P + 3) na N) (w9 : wR σ (P + 9)) (C : PC σ P l) (hq : l[h]? = some (o, d, n, a)) (h1 : o + d ≤ nb) (h2 : n + d ≤ na) (hb : nb ≤ 100) (ha : na ≤ 100) (lO : ∀ i, i < nb → isLn (O i) = true) (lN : ∀ i, i < na → isLn (N i) = true) : Dd 124 [vA P, vI h] σ (rI (if hwZ O N o n d 0 = true then 1 else 0) σ) := by
  obtain ⟨e101, -⟩ := pc_at2 hP w9 C hq
  obtain ⟨e100, -, e103, -⟩ := pc_at hP w9 C hq
  have e101 : Dd 101 [vA P, vI h] σ (rI (d : Nat) σ) := e101
  have e100 : Dd 100 [vA P, vI h] σ (rI (o : Nat) σ) := e100
  have e103 : Dd 103 [vA P, vI h] σ (rI (n : Nat) σ) := e103
  have L : ∀ (w k : Nat) (d3 d4 : Option AV), k + w = d → C124_2 P h k d3 d4 σ (rI (if hwZ O N o n w k = true then 1 else 0) σ) := by
    intro w
    induction w with
    | zero =>
      intro k d3 d4 hk
      refine b124_2 hP ⟨_, _, e101, ?_⟩
      rw [if_neg (by omega)]
      rfl
    | succ w ih =>
      intro k d3 d4 hk
      refine b124_2 hP ⟨_, _, e101, ?_⟩
      rw [if_pos (by omega)]
      refine ⟨_, _, e100, by omega, ?_⟩
      rw [show ((o : Nat) : Int) + (k : Int) = ((o + k : Nat) : Int) by omega]
      refine ⟨_, _, RV_147 V1 (by omega), _, _, e103, by omega, ?_⟩
      rw [show ((n : Nat) : Int) + (k : Int) = ((n + k : Nat) : Int) by omega]
      refine ⟨_, _, RV_147 V3 (by omega), _, _, d70 (isLn_nn (lO _ (by omega))), _, _, d70 (isLn_nn (lN _ (by omega))), ?_⟩
      have e : hwZ O N o n (w + 1) k = if wdZ (O (o + k)) = wdZ (N (n + k)) then hwZ O N o n w (k + 1) else false := rfl
      rw [e]
      by_cases y : wdZ (O (o + k)) = wdZ (N (n + k))
      · rw [if_pos y]
        have y' : (if mkP (O (o + k)) then O (o + k) else O (o + k) % 10000) = (if mkP (N (n + k)) then N (n + k) else N (n + k) % 10000) := y
        rw [if_pos y', show (k : Int) + 1 = ((k + 1 : Nat) : Int) by omega]
        exact ⟨by omega, ih (k + 1) _ _ (by omega)⟩
      · rw [if_neg y]
        have y' : ¬ (if mkP (O (o + k)) then O (o + k) else O (o + k) % 10000) = (if mkP (N (n + k)) then N (n + k) else N (n + k) % 10000) := y
        rw [if_neg y']
        rfl
  exact b124 (L d 0 none none (by omega))
/-- onlyFormats -/
theorem d123 {σ : Sg} {P nb na : Nat} {O N : Nat → Int} {l : List St} (hP : isPatch P = true) (V1 : RV σ (P + 1) nb O) (V3 : RV σ (P + 3) na N) (w9 : wR σ (P + 9)) (C : PC σ P l) (hl : ∀ q, q ∈ l → q.1 + q.2.1 ≤ nb ∧ q.2.2.1 + q.2.2.2 ≤ na) (hb : nb ≤ 100) (ha : na ≤ 100) (lO : ∀ i, i < nb → isLn (O i) = true) (lN : ∀ i, i < na → isLn (N i) = true) : Dd 123 [vA P] σ (rI (if ofZ O N l = true then 1 else 0) σ) := by
  have hlen : 4 * l.length ≤ 5000 := by
    have := cap_le w9.1
    have := w9.2.2
    have := C.1
    omega
  have L : ∀ (w h : Nat), h + w = l.length → C123_2 P h σ (rI (if ofZ O N (l.drop h) = true then 1 else 0) σ) := by
    intro w
    induction w with
    | zero =>
      intro h hh
      refine b123_2 hP ⟨_, _, d98' hP C, ?_⟩
      rw [if_neg (by omega), List.drop_eq_nil_of_le (by omega)]
      rfl
    | succ w ih =>
      intro h hh
      have hlt : h < l.length := by omega
      obtain ⟨q, hq⟩ : ∃ q, l[h]? = some q := ⟨l[h], List.getElem?_eq_getElem hlt⟩
      have hd : l.drop h = q :: l.drop (h + 1) := by
        rw [List.drop_eq_getElem_cons hlt]
        rw [List.getElem?_eq_getElem hlt] at hq
        rw [Option.some.inj hq]
      have bq := hl q (List.mem_of_getElem? hq)
      obtain ⟨e101, e104⟩ := pc_at2 hP w9 C hq
      obtain ⟨o, d, n, a⟩ := q
      have b1 : o + d ≤ nb := bq.1
      have b2 : n + a ≤ na := bq.2
      have e101 : Dd 101 [vA P, vI h] σ (rI (d : Nat) σ) := e101
      have e104 : Dd 104 [vA P, vI h] σ (rI (a : Nat) σ) := e104
      have e : ofZ O N (l.drop h) = if d = a ∧ hwZ O N o n d 0 = true then ofZ O N (l.drop (h + 1)) else false := by
        rw [hd]
        rfl
      refine b123_2 hP ⟨_, _, d98' hP C, ?_⟩
      rw [if_pos (by omega)]
      refine ⟨_, _, e101, _, _, e104, ?_⟩
      by_cases y : d = a
      · rw [if_pos (by omega)]
        refine ⟨_, _, d124 hP V1 V3 w9 C hq b1 (by omega) hb ha lO lN, ?_⟩
        by_cases y2 : hwZ O N o n d 0 = true
        · have e1 : ofZ O N (l.drop h) = ofZ O N (l.drop (h + 1)) := by rw [e, if_pos ⟨y, y2⟩]
          rw [if_pos y2, if_neg (show ¬ (1 : Int) = 0 by decide), e1, show (h : Int) + 1 = ((h + 1 : Nat) : Int) by omega]
          exact ⟨by omega, ih (h + 1) (by omega)⟩
        · have e1 : ofZ O N (l.drop h) = false := by rw [e, if_neg (fun z => y2 z.2)]
          rw [if_neg y2, if_pos rfl, e1]
          rfl
      · have e1 : ofZ O N (l.drop h) = false := by rw [e, if_neg (fun z => y z.1)]
        rw [if_neg (by omega), e1]
        rfl
  have z := L l.length 0 (by omega)
  exact b123 z
/-- the same words, to the reference -/
theorem d255 {x y : Int} {σ : Sg} (hx : isLn x = true) (hy : isLn y = true) : Dd 255 [vI x, vI y] σ (rI (if wdZ x = wdZ y then 1 else 0) σ) := by
  have x0 := isLn_nn hx
  have y0 := isLn_nn hy
  refine b255 ⟨_, _, d249, ?_⟩
  unfold wdZ
  by_cases y1 : mkP x
  · rw [if_pos y1, if_neg (show ¬ (1 : Int) = 0 by decide)]
    refine b255_14 ?_
    rw [if_pos y1]
    by_cases y2 : mkP y
    · rw [if_pos y2]
    · rw [if_neg y2]
      have m1 : 10000 ≤ x := by rcases y1 with e | e | e <;> omega
      have m2 := Int.emod_lt_of_pos y (show (0 : Int) < 10000 by decide)
      rw [if_neg (show ¬ x = y from fun e => y2 (by rw [← e]; exact y1)), if_neg (show ¬ x = y % 10000 by omega)]
  · rw [if_neg y1, if_pos rfl]
    refine ⟨_, _, d249, ?_⟩
    rw [if_neg y1]
    by_cases y2 : mkP y
    · rw [if_pos y2, if_neg (show ¬ (1 : Int) = 0 by decide)]
      refine b255_14 ?_
      rw [if_pos y2]
      have m1 : 10000 ≤ y := by rcases y2 with e | e | e <;> omega
      have m2 := Int.emod_lt_of_pos x (show (0 : Int) < 10000 by decide)
      rw [if_neg (show ¬ x = y from fun e => y1 (by rw [e]; exact y2)), if_neg (show ¬ x % 10000 = y by omega)]
    · rw [if_neg y2, if_pos rfl, if_neg y2, Int.tmod_eq_emod_of_nonneg x0, Int.tmod_eq_emod_of_nonneg y0]
/-- onlyFormats, to the reference -/
theorem d362 {σ : Sg} {s nb na : Nat} {O N F : Nat → Int} (hs : s < 44) (hb : nb ≤ 100) (ha : na ≤ 100) (V : VF F nb na) (lO : ∀ i, i < nb → isLn (O i) = true) (lN : ∀ i, i < na → isLn (N i) = true) (S : Slot σ s nb na O N F) : ∃ σ', Dd 362 [vA 682, vI s] σ (rI (if ofZ O N (hks F nb na) = true then 1 else 0) σ') ∧ HK σ' 0 0 (hks F nb na) ∧ σ' 704 0 = ((hks F nb na).length : Nat) ∧ ∀ c k, ¬ (700 ≤ c ∧ c ≤ 704) → σ' c k = σ c k := by
  have hlen := hks_len V
  have D := DS_0 V
  obtain ⟨s1, a1, a2, a3, a4, a5⟩ := d280 (s := s) (wh := 0) (f := F) (σ := σ) hs (by decide) hb ha V S.1 S.2.1 S.2.2.2.2
  obtain ⟨l, hl⟩ : ∃ l, l = hks F nb na := ⟨_, rfl⟩
  rw [← hl] at a1 a2 a3 a4 D hlen
  rw [← hl]
  have S1 : Slot s1 s nb na O N F := Slot_fr (fun c k h => a5 c k (by omega) (by omega)) S
  have L : ∀ (w h : Nat) (v : Int) (d5 : Option AV), h + w = l.length → (v = 0 ∨ v = 1) → C362_12 s (l.length : Nat) v h d5 s1 (rI (if v = 1 ∧ ofZ O N (l.drop h) = true then 1 else 0) s1) := by
    intro w
    induction w with
    | zero =>
      intro h v d5 hh hv
      refine b362_12 ?_
      rw [if_neg (by omega), List.drop_eq_nil_of_le (by omega)]
      refine ⟨hv, ?_⟩
      rcases hv with e | e
      · rw [e, if_neg (fun z => absurd z.1 (by decide))]
      · rw [e, if_pos ⟨rfl, rfl⟩]
    | succ w ih =>
      intro h v d5 hh hv
      have hlt : h < l.length := by omega
      obtain ⟨q, hq⟩ : ∃ q, l[h]? = some q := ⟨l[h], List.getElem?_eq_getElem hlt⟩
      have hd : l.drop h = q :: l.drop (h + 1) := by
        rw [List.drop_eq_getElem_cons hlt]
        rw [List.getElem?_eq_getElem hlt] at hq
        rw [Option.some.inj hq]
      have bq := (DS_b _ _ _ _ D).2.2 q (List.mem_of_getElem? hq)
      obtain ⟨v0, v1, v2, v3⟩ := HK_at a2 hq
      obtain ⟨o, d, n, a⟩ := q
      have b1 : o + d ≤ nb := bq.2.1
      have b2 : n + a ≤ na := bq.2.2.2
      have v0 : s1 700 h = (o : Nat) := v0
      have v1 : s1 701 h = (d : Nat) := v1
      have v2 : s1 702 h = (n : Nat) := v2
      have v3 : s1 703 h = (a : Nat) := v3
      have e : ofZ O N (l.drop h) = if d = a ∧ hwZ O N o n d 0 = true then ofZ O N (l.drop (h + 1)) else false := by
        rw [hd]
        rfl
      have t114 : ∀ (v' : Int) (d : Option AV), (v' = 0 ∨ v' = 1) → C362_114 s (l.length : Nat) v' h d s1 (rI (if v' = 1 ∧ ofZ O N (l.drop (h + 1)) = true then 1 else 0) s1) := fun v' d hv' => by
        refine b362_114 ⟨by omega, ?_⟩
        rw [show (h : Int) + 1 = ((h + 1 : Nat) : Int) by omega]
        exact ih (h + 1) v' d (by omega) hv'
      have t48 : ∀ (w k : Nat) (v' : Int), k + w = d → (v' = 0 ∨ v' = 1) → (v' = 1 → n + d ≤ na) → C362_48 s (l.length : Nat) v' h k s1 (rI (if (v' = 1 ∧ hwZ O N o n w k = true) ∧ ofZ O N (l.drop (h + 1)) = true then 1 else 0) s1) := by
        intro w
        induction w with
        | zero =>
          intro k v' hk hv' hn
          refine b362_48 ⟨by omega, ?_⟩
          rw [tn, v1, if_neg (by omega)]
          have z := t114 v' (some (vI k)) hv'
          have ez : ((v' = 1 ∧ hwZ O N o n 0 k = true) ∧ ofZ O N (l.drop (h + 1)) = true) ↔ (v' = 1 ∧ ofZ O N (l.drop (h + 1)) = true) := ⟨fun z => ⟨z.1.1, z.2⟩, fun z => ⟨⟨z.1, rfl⟩, z.2⟩⟩
          rw [ifI ez]
          exact z
        | succ w ih2 =>
          intro k v' hk hv' hn
          refine b362_48 ⟨by omega, ?_⟩
          rw [tn, v1, if_pos (by omega)]
          rcases hv' with e0 | e1
          · rw [if_pos e0]
            have z := t114 v' (some (vI k)) (Or.inl e0)
            rw [if_neg (fun y => by rw [e0] at y; exact absurd y.1 (by decide))] at z
            rw [if_neg (fun y => by rw [e0] at y; exact absurd y.1.1 (by decide))]
            exact z
          · have hn := hn e1
            rw [if_neg (by omega), v0, v2, show (100 * (s : Int) + (o : Nat) + (k : Int)).toNat = 100 * s + (o + k) by omega, show (100 * (s : Int) + (n : Nat) + (k : Int)).toNat = 100 * s + (n + k) by omega, S1.2.2.1 _ (by omega), S1.2.2.2.1 _ (by omega)]
            refine ⟨by omega, by omega, by omega, by omega, by omega, by omega, by omega, by omega, by omega, by omega, _, _, d255 (lO _ (by omega)) (lN _ (by omega)), by omega, ?_⟩
            rw [show (k : Int) + 1 = ((k + 1 : Nat) : Int) by omega]
            have eh : hwZ O N o n (w + 1) k = if wdZ (O (o + k)) = wdZ (N (n + k)) then hwZ O N o n w (k + 1) else false := rfl
            by_cases y : wdZ (O (o + k)) = wdZ (N (n + k))
            · rw [if_pos y] at eh ⊢
              rw [eh, e1]
              exact ih2 (k + 1) 1 (by omega) (Or.inr rfl) (fun _ => hn)
            · rw [if_neg y] at eh ⊢
              have z := ih2 (k + 1) 0 (by omega) (Or.inl rfl) (fun y => absurd y (by decide))
              rw [if_neg (fun y => absurd y.1.1 (by decide))] at z
              rw [eh, if_neg (fun y => absurd y.1.2 (by decide))]
              exact z
      refine b362_12 ?_
      rw [if_pos (by omega), tn, v1, v3]
      rcases hv with e0 | e1
      · rw [if_pos e0]
        refine b362_43 (b362_44 ?_)
        have z := t48 d 0 0 (by omega) (Or.inl rfl) (fun y => absurd y (by decide))
        rw [if_neg (fun y => absurd y.1.1 (by decide))] at z
        rw [if_neg (fun y => by rw [e0] at y; exact absurd y.1 (by decide))]
        exact z
      · rw [if_neg (by omega)]
        refine ⟨by omega, by omega, ?_⟩
        by_cases y : d = a
        · rw [if_pos (by omega)]
          refine b362_44 ?_
          have z := t48 d 0 1 (by omega) (Or.inr rfl) (fun _ => by omega)
          have ez : (v = 1 ∧ ofZ O N (l.drop h) = true) ↔ (((1 : Int) = 1 ∧ hwZ O N o n d 0 = true) ∧ ofZ O N (l.drop (h + 1)) = true) := ⟨fun z => by
            rw [e] at z
            by_cases y2 : hwZ O N o n d 0 = true
            · rw [if_pos ⟨y, y2⟩] at z
              exact ⟨⟨rfl, y2⟩, z.2⟩
            · rw [if_neg (fun u => y2 u.2)] at z
              exact absurd z.2 (by decide), fun z => ⟨e1, by rw [e, if_pos ⟨y, z.1.2⟩]; exact z.2⟩⟩
          rw [ifI ez]
          exact z
        · rw [if_neg (by omega)]
          refine b362_43 (b362_44 ?_)
          have z := t48 d 0 0 (by omega) (Or.inl rfl) (fun y => absurd y (by decide))
          rw [if_neg (fun y => absurd y.1.1 (by decide))] at z
          rw [if_neg (fun u => by
            have := u.2
            rw [e, if_neg (fun t => y t.1)] at this
            exact absurd this (by decide))]
          exact z
  have z := L l.length 0 1 none (by omega) (Or.inr rfl)
  have ez : ((1 : Int) = 1 ∧ ofZ O N (l.drop 0) = true) ↔ (ofZ O N l = true) := ⟨fun z => z.2, fun z => ⟨rfl, z⟩⟩
  rw [ifI ez] at z
  exact ⟨s1, b362 ⟨_, s1, a1, z⟩, a2, a3, fun c k h => a5 c k (by omega) (by omega)⟩
end
