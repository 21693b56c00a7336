/-! Lines that could have moved: the class's side. -/
noncomputable section
/-- the bits of a number -/
def KBt (v : Int) (S : Nat → Bool) : Prop := ∃ b : BitVec 32, v = b.toInt ∧ ∀ n, n < 32 → b.getLsbD n = S n
theorem KBt_0 : KBt 0 (fun _ => false) := ⟨0#32, rfl, fun n _ => BitVec.getLsbD_zero⟩
theorem sh_fact : ∀ n, n < 16 → ∀ m, m < 32 → (Int32.ofInt 1 <<< (Int32.ofInt (n : Nat) &&& 31)).toBitVec.getLsbD m = decide (m = n) := by decide +kernel
theorem sr_fact : ∀ n, n < 16 → ((Int32.ofInt (n : Nat) &&& 31).toBitVec.smod 32).toNat = n := by decide +kernel
theorem KBt_or {v : Int} {S : Nat → Bool} {n : Nat} (hn : n < 16) (h : KBt v S) : KBt (iOr v (iShl 1 (n : Nat))) (fun m => S m || decide (m = n)) := by
  obtain ⟨b, hb, hS⟩ := h
  refine ⟨b ||| (Int32.ofInt 1 <<< (Int32.ofInt (n : Nat) &&& 31)).toBitVec, ?_, fun m hm => ?_⟩
  · rw [hb]
    show (BitVec.ofInt 32 b.toInt ||| BitVec.ofInt 32 ((Int32.ofInt 1 <<< (Int32.ofInt (n : Nat) &&& 31)).toBitVec.toInt)).toInt = _
    rw [BitVec.ofInt_toInt, BitVec.ofInt_toInt]
  · rw [BitVec.getLsbD_or, hS m hm, sh_fact n hn m hm]
theorem and1_fact (x : BitVec 32) : (x &&& 1#32).toInt = 1 ↔ x.getLsbD 0 = true := by
  have e : x &&& 1#32 = if x.getLsbD 0 = true then 1#32 else 0#32 := by
    apply BitVec.eq_of_getLsbD_eq
    intro i hi
    rw [BitVec.getLsbD_and, BitVec.getLsbD_one]
    by_cases y : x.getLsbD 0 = true
    · rw [if_pos y, BitVec.getLsbD_one]
      by_cases z : i = 0
      · subst z
        rw [y]
        rfl
      · simp [z]
    · rw [if_neg y, BitVec.getLsbD_zero]
      by_cases z : i = 0
      · subst z
        rw [Bool.eq_false_iff.mpr y]
        rfl
      · simp [z]
  rw [e]
  by_cases y : x.getLsbD 0 = true
  · rw [if_pos y]
    exact ⟨fun _ => y, fun _ => rfl⟩
  · rw [if_neg y]
    exact ⟨fun h => absurd h (by decide), fun h => absurd h y⟩
theorem KBt_at {v : Int} {S : Nat → Bool} {n : Nat} (hn : n < 16) (h : KBt v S) : (if iAnd (iShr v (n : Nat)) 1 = 1 then (1 : Int) else 0) = if S n = true then 1 else 0 := by
  obtain ⟨b, hb, hS⟩ := h
  have e : iShr v (n : Nat) = (b.sshiftRight n).toInt := by
    rw [hb]
    show (BitVec.sshiftRight (BitVec.ofInt 32 b.toInt) ((Int32.ofInt (n : Nat) &&& 31).toBitVec.smod 32).toNat).toInt = _
    rw [BitVec.ofInt_toInt, sr_fact n hn]
  have e2 : iAnd (iShr v (n : Nat)) 1 = ((b.sshiftRight n) &&& 1#32).toInt := by
    rw [e]
    show (BitVec.ofInt 32 (b.sshiftRight n).toInt &&& BitVec.ofInt 32 1).toInt = _
    rw [BitVec.ofInt_toInt]
    rfl
  have e3 : (b.sshiftRight n).getLsbD 0 = S n := by
    rw [BitVec.getLsbD_sshiftRight, ← hS n (by omega)]
    simp
    omega
  have e4 := and1_fact (b.sshiftRight n)
  rw [e2]
  by_cases y : S n = true
  · rw [if_pos (e4.mpr (by rw [e3]; exact y)), if_pos y]
  · rw [if_neg (fun h => y (by rw [← e3]; exact e4.mp h)), if_neg y]
theorem KBt_cg {v : Int} {S S' : Nat → Bool} (h : ∀ n, n < 32 → S n = S' n) (H : KBt v S) : KBt v S' := by
  obtain ⟨b, hb, hS⟩ := H
  exact ⟨b, hb, fun n hn => by rw [hS n hn]; exact h n hn⟩
/-- an old line and a new one could be the same -/
def knB (O N F K : Nat → Int) (nb na i n : Nat) : Bool := decide (i < nb) && (decide (n < na) && (decide (n < 16) && (decide (F i = -1) && (decide (K n = -1) && decide (50 ≤ lik (O i) (N n))))))
theorem knB_i {O N F K : Nat → Int} {nb na i n : Nat} : knB O N F K nb na i n = true ↔ i < nb ∧ n < na ∧ n < 16 ∧ F i = -1 ∧ K n = -1 ∧ 50 ≤ lik (O i) (N n) := by
  unfold knB
  rw [Bool.and_eq_true, Bool.and_eq_true, Bool.and_eq_true, Bool.and_eq_true, Bool.and_eq_true, decide_eq_true_eq, decide_eq_true_eq, decide_eq_true_eq, decide_eq_true_eq, decide_eq_true_eq, decide_eq_true_eq]
def knI (O N F K : Nat → Int) (nb na : Nat) (i n : Int) : Bool := decide (0 ≤ i) && (decide (0 ≤ n) && knB O N F K nb na i.toNat n.toNat)
theorem knI_i {O N F K : Nat → Int} {nb na : Nat} {i n : Int} : knI O N F K nb na i n = true ↔ 0 ≤ i ∧ 0 ≤ n ∧ knB O N F K nb na i.toNat n.toNat = true := by
  unfold knI
  rw [Bool.and_eq_true, Bool.and_eq_true, decide_eq_true_eq, decide_eq_true_eq]
/-- a patch's texts, pairs and their inverse, as rows -/
def RVs (σ : Sg) (P nb na : Nat) (O N F K : Nat → Int) : Prop := RV σ (P + 1) nb O ∧ RV σ (P + 3) na N ∧ RV σ (P + 5) nb F ∧ RV σ (P + 7) na K
theorem RVs_fr {σ s : Sg} {P nb na : Nat} {O N F K : Nat → Int} (h : ∀ c k, P + 1 ≤ c ∧ c ≤ P + 8 → s c k = σ c k) (V : RVs σ P nb na O N F K) : RVs s P nb na O N F K :=
  ⟨RV_fr (fun k => h _ k (by omega)) (fun k => h _ k (by omega)) V.1, RV_fr (fun k => h _ k (by omega)) (fun k => h _ k (by omega)) V.2.1, RV_fr (fun k => h _ k (by omega)) (fun k => h _ k (by omega)) V.2.2.1, RV_fr (fun k => h _ k (by omega)) (fun k => h _ k (by omega)) V.2.2.2⟩
/-- findKin, the new lines -/
theorem l115n {σ0 : Sg} {P nb na i : Nat} {O N F K : Nat → Int} (hP : isPatch P = true) (V : RVs σ0 P nb na O N F K) (h100 : nb ≤ 100) (h100' : na ≤ 100) (lO : ∀ i, i < nb → isLn (O i) = true) (lN : ∀ i, i < na → isLn (N i) = true) (w11 : wR σ0 (P + 11)) (z11 : σ0 (P + 11) 1 = (nb : Nat)) (hi : i < nb) : ∀ (w n : Nat) (σ : Sg), n + w = 101 → (∀ c k, ¬ (c = P + 12 ∧ k = i) → σ c k = σ0 c k) → KBt (σ (P + 12) i) (fun m => knB O N F K nb na i m && decide (m < n)) → ∃ s, (∀ {o : Rs}, (∀ d2 d3 : Option AV, C115_17 P ((i + 1 : Nat) : Int) d2 d3 s o) → ∀ d3 : Option AV, C115_30 P i n d3 σ o) ∧ KBt (s (P + 12) i) (knB O N F K nb na i) ∧ ∀ c k, ¬ (c = P + 12 ∧ k = i) → s c k = σ0 c k := by
  intro w
  induction w with
  | zero =>
    intro n σ hn fr hk
    refine ⟨σ, fun {o} hx d3 => b115_30 hP ⟨_, _, RV_146 (RVs_fr (fun c k h => fr c k (by omega)) V).2.1, ?_⟩, KBt_cg (fun m _ => ?_) hk, fr⟩
    · rw [if_neg (by omega)]
      refine b115_131 ⟨by omega, ?_⟩
      rw [show (i : Int) + 1 = ((i + 1 : Nat) : Int) by omega]
      exact hx _ _
    · by_cases y : knB O N F K nb na i m = true
      · have := (knB_i.mp y)
        rw [y, decide_eq_true (show m < n by omega)]
        rfl
      · rw [(Bool.eq_false_iff.mpr y)]
        rfl
  | succ w ih =>
    intro n σ hn fr hk
    have V' := RVs_fr (s := σ) (fun c k h => fr c k (by omega)) V
    by_cases y12 : n < na ∧ n < 16
    · obtain ⟨y1, y2⟩ := y12
      -- one new line more
      have nx : ∀ (s1 : Sg), (∀ c k, ¬ (c = P + 12 ∧ k = i) → s1 c k = σ0 c k) → KBt (s1 (P + 12) i) (fun m => knB O N F K nb na i m && decide (m < n + 1)) → (∀ {o : Rs}, (∀ d : Option AV, C115_125 P i n d s1 o) → ∀ d3 : Option AV, C115_30 P i n d3 σ o) → ∃ s, (∀ {o : Rs}, (∀ d2 d3 : Option AV, C115_17 P ((i + 1 : Nat) : Int) d2 d3 s o) → ∀ d3 : Option AV, C115_30 P i n d3 σ o) ∧ KBt (s (P + 12) i) (knB O N F K nb na i) ∧ ∀ c k, ¬ (c = P + 12 ∧ k = i) → s c k = σ0 c k := fun s1 h1 h2 h3 => by
        obtain ⟨s, a1, a2, a3⟩ := ih (n + 1) s1 (by omega) h1 h2
        refine ⟨s, fun {o} hx => h3 (fun d => b115_125 ⟨by omega, ?_⟩), a2, a3⟩
        rw [show (n : Int) + 1 = ((n + 1 : Nat) : Int) by omega]
        exact a1 hx _
      have no : ¬ knB O N F K nb na i n = true → KBt (σ (P + 12) i) (fun m => knB O N F K nb na i m && decide (m < n + 1)) := fun y => KBt_cg (fun m _ => by
        by_cases z : m = n
        · rw [z, (Bool.eq_false_iff.mpr y)]
          rfl
        · rw [decide_eq_decide.mpr (show m < n ↔ m < n + 1 by omega)]) hk
      have hd : ∀ {o : Rs} {d3 : Option AV}, (if F i = -1 then (∃ v8 s7, Dd 147 [vA (P + 7), vI n] σ (rI v8 s7) ∧ (if v8 = -1 then C115_76 P i n d3 1 s7 o else C115_75 P i n d3 s7 o)) else C115_75 P i n d3 σ o) → C115_30 P i n d3 σ o := fun {o d3} h => by
        refine b115_30 hP ⟨_, _, RV_146 V'.2.1, ?_⟩
        rw [if_pos (by omega), if_pos (by omega)]
        exact ⟨_, _, RV_147 V'.2.2.1 hi, h⟩
      by_cases y3 : F i = -1
      · by_cases y4 : K n = -1
        · by_cases y5 : 50 ≤ lik (O i) (N n)
          · have wr : wR σ (P + 11) := ⟨w11.1, by rw [fr _ _ (by omega)]; exact w11.2⟩
            have z1 : σ (P + 11) 1 = (nb : Nat) := by rw [fr _ _ (by omega)]; exact z11
            have e147 := d147 (σ := σ) (a := P + 11) (i := (i : Int)) wr
            rw [at_on (n := nb) (f := σ (P + 12)) z1 (fun _ _ => rfl) hi] at e147
            have e148 := d148 (σ := σ) (a := P + 11) (i := (i : Int)) (v := iOr (σ (P + 12) i) (iShl 1 (n : Nat))) wr
            unfold stS at e148
            rw [z1, if_pos (by omega), tn] at e148
            refine nx (upS σ (P + 11 + 1) i (iOr (σ (P + 12) i) (iShl 1 (n : Nat)))) (fun c k h => ?_) ?_ (fun {o} hx d3 => hd ?_)
            · unfold upS
              rw [if_neg (by omega)]
              exact fr c k h
            · have e : upS σ (P + 11 + 1) i (iOr (σ (P + 12) i) (iShl 1 (n : Nat))) (P + 12) i = iOr (σ (P + 12) i) (iShl 1 (n : Nat)) := up_s
              rw [e]
              refine KBt_cg (fun m _ => ?_) (KBt_or y2 hk)
              by_cases z : m = n
              · rw [z, knB_i.mpr ⟨hi, y1, y2, y3, y4, y5⟩, decide_eq_true (Nat.lt_succ_self n), decide_eq_true (rfl : n = n)]
                simp
              · rw [decide_eq_decide.mpr (show m < n ↔ m < n + 1 by omega), decide_eq_false z, Bool.or_false]
            · rw [if_pos y3]
              refine ⟨_, _, RV_147 V'.2.2.2 y1, ?_⟩
              rw [if_pos y4]
              refine b115_76 hP ?_
              rw [if_neg (show ¬ (1 : Int) = 0 by decide)]
              refine ⟨_, _, RV_147 V'.1 hi, _, _, RV_147 V'.2.1 y1, _, _, d71 (isLn_nn (lO i hi)) (isLn_nn (lN n y1)), ?_⟩
              rw [if_pos y5]
              exact ⟨_, _, e147, _, e148, hx _⟩
          · refine nx σ fr (no (fun h => y5 (knB_i.mp h).2.2.2.2.2)) (fun {o} hx d3 => hd ?_)
            rw [if_pos y3]
            refine ⟨_, _, RV_147 V'.2.2.2 y1, ?_⟩
            rw [if_pos y4]
            refine b115_76 hP ?_
            rw [if_neg (show ¬ (1 : Int) = 0 by decide)]
            refine ⟨_, _, RV_147 V'.1 hi, _, _, RV_147 V'.2.1 y1, _, _, d71 (isLn_nn (lO i hi)) (isLn_nn (lN n y1)), ?_⟩
            rw [if_neg y5]
            exact hx _
        · refine nx σ fr (no (fun h => y4 (knB_i.mp h).2.2.2.2.1)) (fun {o} hx d3 => hd ?_)
          rw [if_pos y3]
          refine ⟨_, _, RV_147 V'.2.2.2 y1, ?_⟩
          rw [if_neg y4]
          refine b115_75 (b115_76 hP ?_)
          rw [if_pos rfl]
          exact hx _
      · refine nx σ fr (no (fun h => y3 (knB_i.mp h).2.2.2.1)) (fun {o} hx d3 => hd ?_)
        rw [if_neg y3]
        refine b115_75 (b115_76 hP ?_)
        rw [if_pos rfl]
        exact hx _
    · refine ⟨σ, fun {o} hx d3 => b115_30 hP ⟨_, _, RV_146 V'.2.1, ?_⟩, KBt_cg (fun m _ => ?_) hk, fr⟩
      · have t131 : C115_131 P i (some (vI n)) d3 σ o := by
          refine b115_131 ⟨by omega, ?_⟩
          rw [show (i : Int) + 1 = ((i + 1 : Nat) : Int) by omega]
          exact hx _ _
        by_cases y1 : n < na
        · rw [if_pos (by omega), if_neg (by omega)]
          exact t131
        · rw [if_neg (by omega)]
          exact t131
      · by_cases y : knB O N F K nb na i m = true
        · have := (knB_i.mp y)
          rw [y, decide_eq_true (show m < n by omega)]
          rfl
        · rw [(Bool.eq_false_iff.mpr y)]
          rfl
/-- findKin -/
theorem d115 {σ : Sg} {P nb na : Nat} {O N F K : Nat → Int} (hP : isPatch P = true) (V : RVs σ P nb na O N F K) (h100 : nb ≤ 100) (h100' : na ≤ 100) (lO : ∀ i, i < nb → isLn (O i) = true) (lN : ∀ i, i < na → isLn (N i) = true) (c11 : nb ≤ cap (P + 11)) : ∃ s, Dd 115 [vA P] σ (rV s) ∧ s (P + 11) 1 = (nb : Nat) ∧ (∀ i, i < nb → KBt (s (P + 12) i) (knB O N F K nb na i)) ∧ ∀ c k, ¬ c = P + 11 → ¬ c = P + 12 → s c k = σ c k := by
  obtain ⟨s1, hs1⟩ : ∃ s1, s1 = flS σ (P + 11) (nb : Nat) 0 := ⟨_, rfl⟩
  have e153 := d153 (σ := σ) (a := P + 11) (n := (nb : Nat)) (v := 0) (pat_11 hP)
  rw [← hs1] at e153
  have z1 : s1 (P + 11) 1 = (nb : Nat) := by rw [hs1]; exact fl_sz (by omega) (by omega)
  have z2 : ∀ i, i < nb → s1 (P + 12) i = 0 := fun i hi => by rw [hs1]; exact fl_val (a := P + 11) (by omega) (by omega) (by omega)
  have z3 : ∀ c k, ¬ c = P + 11 → ¬ c = P + 12 → s1 c k = σ c k := fun c k h1 h2 => by rw [hs1]; exact fl_off h1 h2
  have V1 := RVs_fr (s := s1) (fun c k h => z3 c k (by omega) (by omega)) V
  have key : ∀ (d i : Nat) (s0 : Sg), i + d = nb → (∀ c k, ¬ c = P + 12 → s0 c k = s1 c k) → (∀ i', i' < i → KBt (s0 (P + 12) i') (knB O N F K nb na i')) → (∀ i', i ≤ i' → i' < nb → s0 (P + 12) i' = 0) → ∃ s, (∀ d2 d3 : Option AV, C115_17 P i d2 d3 s0 (rV s)) ∧ (∀ i', i' < nb → KBt (s (P + 12) i') (knB O N F K nb na i')) ∧ ∀ c k, ¬ c = P + 12 → s c k = s1 c k := by
    intro d
    induction d with
    | zero =>
      intro i s0 hi fr h1 h2
      have V2 := RVs_fr (s := s0) (fun c k h => fr c k (by omega)) V1
      refine ⟨s0, fun d2 d3 => b115_17 hP ⟨_, _, RV_146 V2.1, ?_⟩, fun i' hi' => h1 i' (by omega), fr⟩
      rw [if_neg (by omega)]
    | succ d ih =>
      intro i s0 hi fr h1 h2
      have V2 := RVs_fr (s := s0) (fun c k h => fr c k (by omega)) V1
      obtain ⟨s2, a1, a2, a3⟩ := l115n (i := i) hP V2 h100 h100' lO lN ⟨pat_11 hP, by rw [fr _ _ (by omega), z1]; omega⟩ (by rw [fr _ _ (by omega)]; exact z1) (by omega) 101 0 s0 (by omega) (fun _ _ _ => rfl) (by
        rw [h2 i (Nat.le_refl _) (by omega)]
        exact KBt_cg (fun m _ => by rw [decide_eq_false (Nat.not_lt_zero m), Bool.and_false]) KBt_0)
      obtain ⟨s, c1, c2, c3⟩ := ih (i + 1) s2 (by omega) (fun c k h => by rw [a3 c k (by omega)]; exact fr c k h) (fun i' hi' => by
        by_cases y : i' = i
        · rw [y]; exact a2
        · rw [a3 _ _ (by omega)]
          exact h1 i' (by omega)) (fun i' h3 h4 => by
        rw [a3 _ _ (by omega)]
        exact h2 i' (by omega) h4)
      refine ⟨s, fun d2 d3 => b115_17 hP ⟨_, _, RV_146 V2.1, ?_⟩, c2, c3⟩
      rw [if_pos (by omega)]
      exact a1 c1 _
  obtain ⟨s, a1, a2, a3⟩ := key nb 0 s1 (by omega) (fun _ _ _ => rfl) (fun i' h => absurd h (Nat.not_lt_zero i')) (fun i' _ h => z2 i' h)
  exact ⟨s, b115 hP ⟨_, _, RV_146 V.1, s1, e153, a1 _ _⟩, by rw [a3 _ _ (by omega)]; exact z1, a2, fun c k h1 h2 => by rw [a3 c k h2]; exact z3 c k h1 h2⟩
/-- what findKin left -/
def KIN (σ : Sg) (P nb na : Nat) (O N F K : Nat → Int) : Prop := RVs σ P nb na O N F K ∧ wR σ (P + 11) ∧ σ (P + 11) 1 = (nb : Nat) ∧ ∀ i, i < nb → KBt (σ (P + 12) i) (knB O N F K nb na i)
/-- canBeBeside -/
theorem d116 {σ : Sg} {P nb na : Nat} {O N F K : Nat → Int} (hP : isPatch P = true) (V : KIN σ P nb na O N F K) {i n : Int} : Dd 116 [vA P, vI i, vI n] σ (rI (if knI O N F K nb na i n = true then 1 else 0) σ) := by
  obtain ⟨V, w, z, hk⟩ := V
  have e146 := d146 (σ := σ) (pat_11 hP)
  rw [z] at e146
  have no : ¬ knI O N F K nb na i n = true → ∀ d3 : Option AV, C116_40 P i n d3 σ (rI (if knI O N F K nb na i n = true then 1 else 0) σ) := fun y d3 => by
    rw [if_neg y]
    refine b116_40 (b116_41 hP ?_)
    rw [if_pos rfl]
  refine b116 hP ?_
  by_cases y1 : 0 ≤ i
  · rw [if_pos y1]
    refine ⟨_, _, e146, ?_⟩
    by_cases y2 : i < (nb : Nat)
    · rw [if_pos y2]
      by_cases y3 : 0 ≤ n
      · rw [if_pos y3]
        refine ⟨_, _, RV_146 V.2.1, ?_⟩
        by_cases y4 : n < (na : Nat)
        · rw [if_pos y4]
          by_cases y5 : n < 16
          · rw [if_pos y5]
            obtain ⟨a, rfl⟩ := Int.eq_ofNat_of_zero_le y1
            obtain ⟨b, rfl⟩ := Int.eq_ofNat_of_zero_le y3
            refine b116_41 hP ?_
            rw [if_neg (show ¬ (1 : Int) = 0 by decide)]
            have e147 := d147 (σ := σ) (a := P + 11) (i := (a : Int)) w
            rw [at_on (n := nb) (f := σ (P + 12)) z (fun _ _ => rfl) (by omega)] at e147
            refine ⟨_, _, e147, ?_⟩
            rw [KBt_at (by omega) (hk a (by omega))]
            by_cases y6 : knB O N F K nb na a b = true
            · rw [if_pos y6, if_pos (knI_i.mpr ⟨y1, y3, by rw [tn, tn]; exact y6⟩)]
            · rw [if_neg y6, if_neg (fun h => y6 (by have := (knI_i.mp h).2.2; rw [tn, tn] at this; exact this))]
          · rw [if_neg y5]
            exact no (fun h => by
              have z := knB_i.mp (knI_i.mp h).2.2
              omega) _
        · rw [if_neg y4]
          exact no (fun h => by
            have z := knB_i.mp (knI_i.mp h).2.2
            omega) _
      · rw [if_neg y3]
        exact no (fun h => y3 (knI_i.mp h).2.1) _
    · rw [if_neg y2]
      exact no (fun h => by
        have z := knB_i.mp (knI_i.mp h).2.2
        omega) _
  · rw [if_neg y1]
    exact no (fun h => y1 (knI_i.mp h).1) _
end
