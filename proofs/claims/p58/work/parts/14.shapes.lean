/-! Runs that touch no number: they are the same over any numbers, and can be evaluated. -/
def setS (σ : Nat → Nat → Int) (r : Ctl) : Ctl := match r with
  | .inl F => .inl (F.1, F.2.1, F.2.2.1, (F.2.2.2.1.1, σ), F.2.2.2.2.1, F.2.2.2.2.2)
  | .inr (.inl (j, as, F)) => .inr (.inl (j, as, (F.1, F.2.1, F.2.2.1, (F.2.2.2.1.1, σ), F.2.2.2.2.1, F.2.2.2.2.2)))
  | .inr (.inr o) => .inr (.inr (o.1, (o.2.1, σ)))
def z0 : Nat → Nat → Int := fun _ _ => 0
/-- this instruction touches no number -/
def gS (m : Nat) (i : Instr) (st : List AV) (S : List SH) : Bool := match i with
  | .iaload | .iastore | .laload | .lastore | .baload | .bastore => false
  | .arraylength => match st with
      | .inr (.inr (some a)) :: _ => decide (¬ a = SCR)
      | _ => false
  | .getfield x => match fl (M_o m) x, st with
      | some (_, f, _), .inr (.inr (some a)) :: _ => match S[a]? with
          | some (_, _, rf) => (rf[f]?.bind id).isSome
          | none => false
      | _, _ => false
  | .putfield _ => match st with
      | .inr (.inr (some _)) :: _ => true
      | _ => false
  | _ => true
theorem ns_step {m pc k n : Nat} {i : Instr} {L : List (Option AV)} {st : List AV} {S : List SH} {σ : Nat → Nat → Int} (h : gS m i st S = true) : stepOp m i pc L st (S, σ) k n = (stepOp m i pc L st (S, z0) k n).map (setS σ) := by
  cases i
  case getfield x =>
    unfold gS at h
    unfold stepOp sGetF
    dsimp only at h ⊢
    generalize fl (M_o m) x = q at h ⊢
    split at h
    · rename_i a b c d e
      dsimp only
      split at h
      · rename_i kd ln rf hS
        rw [hS]
        dsimp only
        by_cases hk : kd = a + 10
        · rw [if_pos hk, if_pos hk]
          cases hf : rf[b]? with
          | none => rfl
          | some r => cases r with
            | none => rw [hf] at h; cases h
            | some r => rfl
        · rw [if_neg hk, if_neg hk]; rfl
      · cases h
    · cases h
  case putfield x =>
    unfold gS at h
    unfold stepOp sPutF
    dsimp only at h ⊢
    generalize fl (M_o m) x = q at h ⊢
    split at h
    · rename_i r t
      cases q with
      | none => rfl
      | some q =>
        obtain ⟨ci, f, fin, isR⟩ := q
        cases t with
        | nil => rfl
        | cons v t => 
          rcases v with v | v | v
          · rfl
          · rfl
          · cases v with
            | none => rfl
            | some a =>
              dsimp only
              cases S[a]? with
              | none => rfl
              | some s9 =>
                dsimp only
                split <;> rfl
    · cases h
  case arraylength =>
    unfold gS at h
    unfold stepOp sAlen
    dsimp only at h ⊢
    split at h
    · rename_i a t
      have ha := of_decide_eq_true h
      dsimp only
      rw [if_neg ha, if_neg ha]
      cases S[a]? with
      | none => rfl
      | some s9 =>
        dsimp only
        repeat' split
        all_goals rfl
    · cases h
  case newarray a9 =>
    cases a9 <;> unfold stepOp <;> dsimp only <;> (try unfold sNewA) <;> (try dsimp only) <;> (repeat' split) <;> rfl
  all_goals (first | (cases h; done) | skip)
  all_goals (unfold stepOp; dsimp only)
  all_goals (first | (rfl; done) | skip)
  all_goals (first | unfold sLdI | unfold sLdA | unfold sStI | unfold sStA | unfold sK | unfold sBin | unfold sDiv | unfold sBit | unfold sIf | unfold sCmp | unfold sNul jmp | unfold sSw jmp | unfold sAald | unfold sAast | unfold sNewA | unfold sCall | unfold jmp | unfold sIret | unfold sAret | unfold sVret | skip)
  all_goals (try unfold sK)
  all_goals (try unfold sThrow sNew)
  all_goals (try dsimp only)
  all_goals (repeat' split)
  all_goals (first | rfl | skip)
def runN : Nat → Nat → Nat × List (Option AV) × List AV × List SH × Nat × Nat → Option ((Option AV ⊕ Nat) × List SH)
  | 0, _, _ => none
  | n + 1, m, F => match op m F.1 with
      | none => none
      | some (i, _) => if gS m i F.2.2.1 F.2.2.2.1 = true then match stepOp m i F.1 F.2.1 F.2.2.1 (F.2.2.2.1, z0) F.2.2.2.2.1 F.2.2.2.2.2 with
          | none => none
          | some (.inl G) => runN n m (G.1, G.2.1, G.2.2.1, G.2.2.2.1.1, G.2.2.2.2.1, G.2.2.2.2.2)
          | some (.inr (.inr o)) => some (o.1, o.2.1)
          | some (.inr (.inl (j, as, G))) => match runN n j (0, as.map some ++ List.replicate (M_L j - as.length) none, [], G.2.2.2.1.1, 0, 0) with
              | some (.inl v, S') => runN n m (G.1, G.2.1, v.toList ++ G.2.2.1, S', G.2.2.2.2.1, G.2.2.2.2.2)
              | _ => none
        else none
theorem runN_ok (σ : Nat → Nat → Int) : ∀ (nf m : Nat) (F : Nat × List (Option AV) × List AV × List SH × Nat × Nat) (v : Option AV ⊕ Nat) (S' : List SH), runN nf m F = some (v, S') → run nf m (F.1, F.2.1, F.2.2.1, (F.2.2.2.1, σ), F.2.2.2.2.1, F.2.2.2.2.2) = some (v, (S', σ)) := by
  intro nf
  induction nf with
  | zero => intro m F v S' h; cases h
  | succ nf ih =>
    intro m F v S' h
    obtain ⟨pc, L, st, S, k, n⟩ := F
    unfold runN at h
    dsimp only at h ⊢
    unfold run
    cases ho : op m pc with
    | none => rw [ho] at h; cases h
    | some il =>
      obtain ⟨i, len⟩ := il
      rw [ho] at h
      dsimp only at h
      split at h
      · rename_i hg
        have e : step m (pc, L, st, (S, σ), k, n) = (stepOp m i pc L st (S, z0) k n).map (setS σ) := by
          unfold step
          dsimp only
          rw [ho]
          exact ns_step hg
        rw [e]
        cases hs : stepOp m i pc L st (S, z0) k n with
        | none => rw [hs] at h; cases h
        | some r =>
          rw [hs] at h
          rcases r with G | ⟨j, as, G⟩ | o
          · exact ih m _ v S' h
          · dsimp only at h
            show (match run nf j (entryF j as (G.2.2.2.1.1, σ)) with
              | none => none
              | some (.inl v, h) => run nf m (pushO v (G.1, G.2.1, G.2.2.1, (G.2.2.2.1.1, σ), G.2.2.2.2.1, G.2.2.2.2.2) h)
              | some (.inr E, h) => thrOf m pc E h) = _
            cases hc : runN nf j (0, as.map some ++ List.replicate (M_L j - as.length) none, [], G.2.2.2.1.1, 0, 0) with
            | none => rw [hc] at h; cases h
            | some q =>
              obtain ⟨w, S1⟩ := q
              rw [hc] at h
              have hc2 := ih j _ w S1 hc
              have hc3 : run nf j (entryF j as (G.2.2.2.1.1, σ)) = some (w, (S1, σ)) := hc2
              rw [hc3]
              cases w with
              | inr E => cases h
              | inl w => exact ih m _ v S' h
          · cases h; rfl
      · cases h

def shP_0 : List SH := [(20, 0, [some (some 1), some (some 10), some (some 19), none, some (some 332), some (some 350), some (some 379), some (some 392), some (some 399), some (some 402), some (some 473), some (some 614), some (some 658)]), (3, 0, [some (some 2), some (some 4), some (some 6), some (some 8)]), (18, 0, [some (some 3), none]), (0, 16, []), (18, 0, [some (some 5), none]), (0, 16, []), (18, 0, [some (some 7), none]), (0, 16, []), (18, 0, [some (some 9), none]), (0, 16, []), (3, 0, [some (some 11), some (some 13), some (some 15), some (some 17)]), (18, 0, [some (some 12), none]), (0, 40, []), (18, 0, [some (some 14), none]), (0, 40, []), (18, 0, [some (some 16), none]), (0, 40, []), (18, 0, [some (some 18), none]), (0, 40, []), (4, 0, [some (some 20), some (some 33), some (some 46), some (some 59), some (some 72), some (some 85), some (some 98), some (some 111), some (some 124), some (some 137), some (some 150), some (some 163), some (some 176), some (some 189), some (some 202), some (some 215), some (some 228), some (some 241), some (some 254), some (some 267), some (some 280), some (some 293), some (some 306), some (some 319)]), (15, 0, [some (some 21), some (some 23), some (some 25), some (some 27), some (some 29), some (some 31)]), (18, 0, [some (some 22), none]), (0, 16, []), (18, 0, [some (some 24), none]), (0, 16, []), (18, 0, [some (some 26), none]), (0, 16, []), (18, 0, [some (some 28), none]), (0, 16, []), (18, 0, [some (some 30), none]), (0, 68, []), (18, 0, [some (some 32), none]), (0, 16, []), (15, 0, [some (some 34), some (some 36), some (some 38), some (some 40), some (some 42), some (some 44)]), (18, 0, [some (some 35), none]), (0, 16, []), (18, 0, [some (some 37), none]), (0, 16, []), (18, 0, [some (some 39), none]), (0, 16, []), (18, 0, [some (some 41), none]), (0, 16, []), (18, 0, [some (some 43), none]), (0, 68, []), (18, 0, [some (some 45), none]), (0, 16, []), (15, 0, [some (some 47), some (some 49), some (some 51), some (some 53), some (some 55), some (some 57)]), (18, 0, [some (some 48), none]), (0, 16, []), (18, 0, [some (some 50), none]), (0, 16, []), (18, 0, [some (some 52), none]), (0, 16, []), (18, 0, [some (some 54), none]), (0, 16, []), (18, 0, [some (some 56), none]), (0, 68, []), (18, 0, [some (some 58), none]), (0, 16, []), (15, 0, [some (some 60), some (some 62), some (some 64), some (some 66), some (some 68), some (some 70)]), (18, 0, [some (some 61), none]), (0, 16, []), (18, 0, [some (some 63), none]), (0, 16, []), (18, 0, [some (some 65), none]), (0, 16, []), (18, 0, [some (some 67), none]), (0, 16, []), (18, 0, [some (some 69), none]), (0, 68, []), (18, 0, [some (some 71), none]), (0, 16, []), (15, 0, [some (some 73), some (some 75), some (some 77), some (some 79), some (some 81), some (some 83)]), (18, 0, [some (some 74), none]), (0, 16, []), (18, 0, [some (some 76), none]), (0, 16, []), (18, 0, [some (some 78), none]), (0, 16, []), (18, 0, [some (some 80), none]), (0, 16, []), (18, 0, [some (some 82), none]), (0, 68, []), (18, 0, [some (some 84), none]), (0, 16, []), (15, 0, [some (some 86), some (some 88), some (some 90), some (some 92), some (some 94), some (some 96)]), (18, 0, [some (some 87), none]), (0, 16, []), (18, 0, [some (some 89), none]), (0, 16, []), (18, 0, [some (some 91), none]), (0, 16, []), (18, 0, [some (some 93), none]), (0, 16, []), (18, 0, [some (some 95), none]), (0, 68, []), (18, 0, [some (some 97), none]), (0, 16, []), (15, 0, [some (some 99), some (some 101), some (some 103), some (some 105), some (some 107), some (some 109)]), (18, 0, [some (some 100), none])]
def shP_1 : List SH := [(0, 16, []), (18, 0, [some (some 102), none]), (0, 16, []), (18, 0, [some (some 104), none]), (0, 16, []), (18, 0, [some (some 106), none]), (0, 16, []), (18, 0, [some (some 108), none]), (0, 68, []), (18, 0, [some (some 110), none]), (0, 16, []), (15, 0, [some (some 112), some (some 114), some (some 116), some (some 118), some (some 120), some (some 122)]), (18, 0, [some (some 113), none]), (0, 16, []), (18, 0, [some (some 115), none]), (0, 16, []), (18, 0, [some (some 117), none]), (0, 16, []), (18, 0, [some (some 119), none]), (0, 16, []), (18, 0, [some (some 121), none]), (0, 68, []), (18, 0, [some (some 123), none]), (0, 16, []), (15, 0, [some (some 125), some (some 127), some (some 129), some (some 131), some (some 133), some (some 135)]), (18, 0, [some (some 126), none]), (0, 16, []), (18, 0, [some (some 128), none]), (0, 16, []), (18, 0, [some (some 130), none]), (0, 16, []), (18, 0, [some (some 132), none]), (0, 16, []), (18, 0, [some (some 134), none]), (0, 68, []), (18, 0, [some (some 136), none]), (0, 16, []), (15, 0, [some (some 138), some (some 140), some (some 142), some (some 144), some (some 146), some (some 148)]), (18, 0, [some (some 139), none]), (0, 16, []), (18, 0, [some (some 141), none]), (0, 16, []), (18, 0, [some (some 143), none]), (0, 16, []), (18, 0, [some (some 145), none]), (0, 16, []), (18, 0, [some (some 147), none]), (0, 68, []), (18, 0, [some (some 149), none]), (0, 16, []), (15, 0, [some (some 151), some (some 153), some (some 155), some (some 157), some (some 159), some (some 161)]), (18, 0, [some (some 152), none]), (0, 16, []), (18, 0, [some (some 154), none]), (0, 16, []), (18, 0, [some (some 156), none]), (0, 16, []), (18, 0, [some (some 158), none]), (0, 16, []), (18, 0, [some (some 160), none]), (0, 68, []), (18, 0, [some (some 162), none]), (0, 16, []), (15, 0, [some (some 164), some (some 166), some (some 168), some (some 170), some (some 172), some (some 174)]), (18, 0, [some (some 165), none]), (0, 16, []), (18, 0, [some (some 167), none]), (0, 16, []), (18, 0, [some (some 169), none]), (0, 16, []), (18, 0, [some (some 171), none]), (0, 16, []), (18, 0, [some (some 173), none]), (0, 68, []), (18, 0, [some (some 175), none]), (0, 16, []), (15, 0, [some (some 177), some (some 179), some (some 181), some (some 183), some (some 185), some (some 187)]), (18, 0, [some (some 178), none]), (0, 16, []), (18, 0, [some (some 180), none]), (0, 16, []), (18, 0, [some (some 182), none]), (0, 16, []), (18, 0, [some (some 184), none]), (0, 16, []), (18, 0, [some (some 186), none]), (0, 68, []), (18, 0, [some (some 188), none]), (0, 16, []), (15, 0, [some (some 190), some (some 192), some (some 194), some (some 196), some (some 198), some (some 200)]), (18, 0, [some (some 191), none]), (0, 16, []), (18, 0, [some (some 193), none]), (0, 16, []), (18, 0, [some (some 195), none]), (0, 16, []), (18, 0, [some (some 197), none]), (0, 16, []), (18, 0, [some (some 199), none]), (0, 68, [])]
def shP_2 : List SH := [(18, 0, [some (some 201), none]), (0, 16, []), (15, 0, [some (some 203), some (some 205), some (some 207), some (some 209), some (some 211), some (some 213)]), (18, 0, [some (some 204), none]), (0, 16, []), (18, 0, [some (some 206), none]), (0, 16, []), (18, 0, [some (some 208), none]), (0, 16, []), (18, 0, [some (some 210), none]), (0, 16, []), (18, 0, [some (some 212), none]), (0, 68, []), (18, 0, [some (some 214), none]), (0, 16, []), (15, 0, [some (some 216), some (some 218), some (some 220), some (some 222), some (some 224), some (some 226)]), (18, 0, [some (some 217), none]), (0, 16, []), (18, 0, [some (some 219), none]), (0, 16, []), (18, 0, [some (some 221), none]), (0, 16, []), (18, 0, [some (some 223), none]), (0, 16, []), (18, 0, [some (some 225), none]), (0, 68, []), (18, 0, [some (some 227), none]), (0, 16, []), (15, 0, [some (some 229), some (some 231), some (some 233), some (some 235), some (some 237), some (some 239)]), (18, 0, [some (some 230), none]), (0, 16, []), (18, 0, [some (some 232), none]), (0, 16, []), (18, 0, [some (some 234), none]), (0, 16, []), (18, 0, [some (some 236), none]), (0, 16, []), (18, 0, [some (some 238), none]), (0, 68, []), (18, 0, [some (some 240), none]), (0, 16, []), (15, 0, [some (some 242), some (some 244), some (some 246), some (some 248), some (some 250), some (some 252)]), (18, 0, [some (some 243), none]), (0, 16, []), (18, 0, [some (some 245), none]), (0, 16, []), (18, 0, [some (some 247), none]), (0, 16, []), (18, 0, [some (some 249), none]), (0, 16, []), (18, 0, [some (some 251), none]), (0, 68, []), (18, 0, [some (some 253), none]), (0, 16, []), (15, 0, [some (some 255), some (some 257), some (some 259), some (some 261), some (some 263), some (some 265)]), (18, 0, [some (some 256), none]), (0, 16, []), (18, 0, [some (some 258), none]), (0, 16, []), (18, 0, [some (some 260), none]), (0, 16, []), (18, 0, [some (some 262), none]), (0, 16, []), (18, 0, [some (some 264), none]), (0, 68, []), (18, 0, [some (some 266), none]), (0, 16, []), (15, 0, [some (some 268), some (some 270), some (some 272), some (some 274), some (some 276), some (some 278)]), (18, 0, [some (some 269), none]), (0, 16, []), (18, 0, [some (some 271), none]), (0, 16, []), (18, 0, [some (some 273), none]), (0, 16, []), (18, 0, [some (some 275), none]), (0, 16, []), (18, 0, [some (some 277), none]), (0, 68, []), (18, 0, [some (some 279), none]), (0, 16, []), (15, 0, [some (some 281), some (some 283), some (some 285), some (some 287), some (some 289), some (some 291)]), (18, 0, [some (some 282), none]), (0, 16, []), (18, 0, [some (some 284), none]), (0, 16, []), (18, 0, [some (some 286), none]), (0, 16, []), (18, 0, [some (some 288), none]), (0, 16, []), (18, 0, [some (some 290), none]), (0, 68, []), (18, 0, [some (some 292), none]), (0, 16, []), (15, 0, [some (some 294), some (some 296), some (some 298), some (some 300), some (some 302), some (some 304)]), (18, 0, [some (some 295), none]), (0, 16, []), (18, 0, [some (some 297), none]), (0, 16, []), (18, 0, [some (some 299), none]), (0, 16, [])]
def shP_3 : List SH := [(18, 0, [some (some 301), none]), (0, 16, []), (18, 0, [some (some 303), none]), (0, 68, []), (18, 0, [some (some 305), none]), (0, 16, []), (15, 0, [some (some 307), some (some 309), some (some 311), some (some 313), some (some 315), some (some 317)]), (18, 0, [some (some 308), none]), (0, 16, []), (18, 0, [some (some 310), none]), (0, 16, []), (18, 0, [some (some 312), none]), (0, 16, []), (18, 0, [some (some 314), none]), (0, 16, []), (18, 0, [some (some 316), none]), (0, 68, []), (18, 0, [some (some 318), none]), (0, 16, []), (15, 0, [some (some 320), some (some 322), some (some 324), some (some 326), some (some 328), some (some 330)]), (18, 0, [some (some 321), none]), (0, 16, []), (18, 0, [some (some 323), none]), (0, 16, []), (18, 0, [some (some 325), none]), (0, 16, []), (18, 0, [some (some 327), none]), (0, 16, []), (18, 0, [some (some 329), none]), (0, 68, []), (18, 0, [some (some 331), none]), (0, 16, []), (11, 0, [some (some 333), some (some 335), some (some 337), some (some 339), some (some 341), some (some 343), some (some 345), some (some 347), some (some 349)]), (18, 0, [some (some 334), none]), (0, 40, []), (18, 0, [some (some 336), none]), (0, 40, []), (18, 0, [some (some 338), none]), (0, 40, []), (18, 0, [some (some 340), none]), (0, 40, []), (18, 0, [some (some 342), none]), (0, 40, []), (18, 0, [some (some 344), none]), (0, 640, []), (18, 0, [some (some 346), none]), (0, 40, []), (18, 0, [some (some 348), none]), (0, 40, []), (0, 1681, []), (10, 0, [some (some 351), some (some 364), some (some 377)]), (15, 0, [some (some 352), some (some 354), some (some 356), some (some 358), some (some 360), some (some 362)]), (18, 0, [some (some 353), none]), (0, 96, []), (18, 0, [some (some 355), none]), (0, 96, []), (18, 0, [some (some 357), none]), (0, 96, []), (18, 0, [some (some 359), none]), (0, 96, []), (18, 0, [some (some 361), none]), (0, 388, []), (18, 0, [some (some 363), none]), (0, 96, []), (15, 0, [some (some 365), some (some 367), some (some 369), some (some 371), some (some 373), some (some 375)]), (18, 0, [some (some 366), none]), (0, 96, []), (18, 0, [some (some 368), none]), (0, 96, []), (18, 0, [some (some 370), none]), (0, 96, []), (18, 0, [some (some 372), none]), (0, 96, []), (18, 0, [some (some 374), none]), (0, 388, []), (18, 0, [some (some 376), none]), (0, 96, []), (18, 0, [some (some 378), none]), (0, 96, []), (15, 0, [some (some 380), some (some 382), some (some 384), some (some 386), some (some 388), some (some 390)]), (18, 0, [some (some 381), none]), (0, 16, []), (18, 0, [some (some 383), none]), (0, 16, []), (18, 0, [some (some 385), none]), (0, 16, []), (18, 0, [some (some 387), none]), (0, 16, []), (18, 0, [some (some 389), none]), (0, 68, []), (18, 0, [some (some 391), none]), (0, 16, []), (17, 0, [some (some 393), some (some 395), some (some 397)]), (18, 0, [some (some 394), none]), (0, 17, []), (18, 0, [some (some 396), none]), (0, 17, []), (18, 0, [some (some 398), none]), (0, 96, []), (14, 0, [some (some 400), none, none, none, none, none, none])]
def shP_4 : List SH := [(18, 0, [some (some 401), none]), (0, 96, []), (16, 0, [some (some 403), some (some 405), some (some 471), none, none]), (18, 0, [some (some 404), none]), (0, 16, []), (4, 0, [some (some 406), some (some 419), some (some 432), some (some 445), some (some 458)]), (15, 0, [some (some 407), some (some 409), some (some 411), some (some 413), some (some 415), some (some 417)]), (18, 0, [some (some 408), none]), (0, 16, []), (18, 0, [some (some 410), none]), (0, 16, []), (18, 0, [some (some 412), none]), (0, 16, []), (18, 0, [some (some 414), none]), (0, 16, []), (18, 0, [some (some 416), none]), (0, 68, []), (18, 0, [some (some 418), none]), (0, 16, []), (15, 0, [some (some 420), some (some 422), some (some 424), some (some 426), some (some 428), some (some 430)]), (18, 0, [some (some 421), none]), (0, 16, []), (18, 0, [some (some 423), none]), (0, 16, []), (18, 0, [some (some 425), none]), (0, 16, []), (18, 0, [some (some 427), none]), (0, 16, []), (18, 0, [some (some 429), none]), (0, 68, []), (18, 0, [some (some 431), none]), (0, 16, []), (15, 0, [some (some 433), some (some 435), some (some 437), some (some 439), some (some 441), some (some 443)]), (18, 0, [some (some 434), none]), (0, 16, []), (18, 0, [some (some 436), none]), (0, 16, []), (18, 0, [some (some 438), none]), (0, 16, []), (18, 0, [some (some 440), none]), (0, 16, []), (18, 0, [some (some 442), none]), (0, 68, []), (18, 0, [some (some 444), none]), (0, 16, []), (15, 0, [some (some 446), some (some 448), some (some 450), some (some 452), some (some 454), some (some 456)]), (18, 0, [some (some 447), none]), (0, 16, []), (18, 0, [some (some 449), none]), (0, 16, []), (18, 0, [some (some 451), none]), (0, 16, []), (18, 0, [some (some 453), none]), (0, 16, []), (18, 0, [some (some 455), none]), (0, 68, []), (18, 0, [some (some 457), none]), (0, 16, []), (15, 0, [some (some 459), some (some 461), some (some 463), some (some 465), some (some 467), some (some 469)]), (18, 0, [some (some 460), none]), (0, 16, []), (18, 0, [some (some 462), none]), (0, 16, []), (18, 0, [some (some 464), none]), (0, 16, []), (18, 0, [some (some 466), none]), (0, 16, []), (18, 0, [some (some 468), none]), (0, 68, []), (18, 0, [some (some 470), none]), (0, 16, []), (18, 0, [some (some 472), none]), (0, 5, []), (19, 0, [some (some 350), some (some 474), some (some 540), some (some 606), some (some 608), some (some 610), some (some 612)]), (4, 0, [some (some 475), some (some 488), some (some 501), some (some 514), some (some 527)]), (15, 0, [some (some 476), some (some 478), some (some 480), some (some 482), some (some 484), some (some 486)]), (18, 0, [some (some 477), none]), (0, 96, []), (18, 0, [some (some 479), none]), (0, 96, []), (18, 0, [some (some 481), none]), (0, 96, []), (18, 0, [some (some 483), none]), (0, 96, []), (18, 0, [some (some 485), none]), (0, 388, []), (18, 0, [some (some 487), none]), (0, 96, []), (15, 0, [some (some 489), some (some 491), some (some 493), some (some 495), some (some 497), some (some 499)]), (18, 0, [some (some 490), none]), (0, 96, []), (18, 0, [some (some 492), none]), (0, 96, []), (18, 0, [some (some 494), none]), (0, 96, []), (18, 0, [some (some 496), none]), (0, 96, []), (18, 0, [some (some 498), none]), (0, 388, []), (18, 0, [some (some 500), none])]
def shP_5 : List SH := [(0, 96, []), (15, 0, [some (some 502), some (some 504), some (some 506), some (some 508), some (some 510), some (some 512)]), (18, 0, [some (some 503), none]), (0, 96, []), (18, 0, [some (some 505), none]), (0, 96, []), (18, 0, [some (some 507), none]), (0, 96, []), (18, 0, [some (some 509), none]), (0, 96, []), (18, 0, [some (some 511), none]), (0, 388, []), (18, 0, [some (some 513), none]), (0, 96, []), (15, 0, [some (some 515), some (some 517), some (some 519), some (some 521), some (some 523), some (some 525)]), (18, 0, [some (some 516), none]), (0, 96, []), (18, 0, [some (some 518), none]), (0, 96, []), (18, 0, [some (some 520), none]), (0, 96, []), (18, 0, [some (some 522), none]), (0, 96, []), (18, 0, [some (some 524), none]), (0, 388, []), (18, 0, [some (some 526), none]), (0, 96, []), (15, 0, [some (some 528), some (some 530), some (some 532), some (some 534), some (some 536), some (some 538)]), (18, 0, [some (some 529), none]), (0, 96, []), (18, 0, [some (some 531), none]), (0, 96, []), (18, 0, [some (some 533), none]), (0, 96, []), (18, 0, [some (some 535), none]), (0, 96, []), (18, 0, [some (some 537), none]), (0, 388, []), (18, 0, [some (some 539), none]), (0, 96, []), (4, 0, [some (some 541), some (some 554), some (some 567), some (some 580), some (some 593)]), (15, 0, [some (some 542), some (some 544), some (some 546), some (some 548), some (some 550), some (some 552)]), (18, 0, [some (some 543), none]), (0, 96, []), (18, 0, [some (some 545), none]), (0, 96, []), (18, 0, [some (some 547), none]), (0, 96, []), (18, 0, [some (some 549), none]), (0, 96, []), (18, 0, [some (some 551), none]), (0, 388, []), (18, 0, [some (some 553), none]), (0, 96, []), (15, 0, [some (some 555), some (some 557), some (some 559), some (some 561), some (some 563), some (some 565)]), (18, 0, [some (some 556), none]), (0, 96, []), (18, 0, [some (some 558), none]), (0, 96, []), (18, 0, [some (some 560), none]), (0, 96, []), (18, 0, [some (some 562), none]), (0, 96, []), (18, 0, [some (some 564), none]), (0, 388, []), (18, 0, [some (some 566), none]), (0, 96, []), (15, 0, [some (some 568), some (some 570), some (some 572), some (some 574), some (some 576), some (some 578)]), (18, 0, [some (some 569), none]), (0, 96, []), (18, 0, [some (some 571), none]), (0, 96, []), (18, 0, [some (some 573), none]), (0, 96, []), (18, 0, [some (some 575), none]), (0, 96, []), (18, 0, [some (some 577), none]), (0, 388, []), (18, 0, [some (some 579), none]), (0, 96, []), (15, 0, [some (some 581), some (some 583), some (some 585), some (some 587), some (some 589), some (some 591)]), (18, 0, [some (some 582), none]), (0, 96, []), (18, 0, [some (some 584), none]), (0, 96, []), (18, 0, [some (some 586), none]), (0, 96, []), (18, 0, [some (some 588), none]), (0, 96, []), (18, 0, [some (some 590), none]), (0, 388, []), (18, 0, [some (some 592), none]), (0, 96, []), (15, 0, [some (some 594), some (some 596), some (some 598), some (some 600), some (some 602), some (some 604)]), (18, 0, [some (some 595), none]), (0, 96, []), (18, 0, [some (some 597), none]), (0, 96, []), (18, 0, [some (some 599), none]), (0, 96, [])]
def shP_6 : List SH := [(18, 0, [some (some 601), none]), (0, 96, []), (18, 0, [some (some 603), none]), (0, 388, []), (18, 0, [some (some 605), none]), (0, 96, []), (18, 0, [some (some 607), none]), (0, 24, []), (18, 0, [some (some 609), none]), (0, 24, []), (18, 0, [some (some 611), none]), (0, 24, []), (18, 0, [some (some 613), none]), (0, 24, []), (13, 0, [some (some 332), some (some 615), some (some 652), some (some 653), some (some 655), some (some 657)]), (3, 0, [some (some 616), some (some 618), some (some 620), some (some 622), some (some 624), some (some 626), some (some 628), some (some 630), some (some 632), some (some 634), some (some 636), some (some 638), some (some 640), some (some 642), some (some 644), some (some 646), some (some 648), some (some 650)]), (18, 0, [some (some 617), none]), (0, 16, []), (18, 0, [some (some 619), none]), (0, 16, []), (18, 0, [some (some 621), none]), (0, 16, []), (18, 0, [some (some 623), none]), (0, 16, []), (18, 0, [some (some 625), none]), (0, 16, []), (18, 0, [some (some 627), none]), (0, 16, []), (18, 0, [some (some 629), none]), (0, 16, []), (18, 0, [some (some 631), none]), (0, 16, []), (18, 0, [some (some 633), none]), (0, 16, []), (18, 0, [some (some 635), none]), (0, 16, []), (18, 0, [some (some 637), none]), (0, 16, []), (18, 0, [some (some 639), none]), (0, 16, []), (18, 0, [some (some 641), none]), (0, 16, []), (18, 0, [some (some 643), none]), (0, 16, []), (18, 0, [some (some 645), none]), (0, 16, []), (18, 0, [some (some 647), none]), (0, 16, []), (18, 0, [some (some 649), none]), (0, 16, []), (18, 0, [some (some 651), none]), (0, 16, []), (2, 18, []), (18, 0, [some (some 654), none]), (0, 60, []), (18, 0, [some (some 656), none]), (0, 6, []), (2, 6, []), (12, 0, [some (some 659), none, some (some 680)]), (3, 0, [some (some 660), some (some 662), some (some 664), some (some 666), some (some 668), some (some 670), some (some 672), some (some 674), some (some 676), some (some 678)]), (18, 0, [some (some 661), none]), (0, 40, []), (18, 0, [some (some 663), none]), (0, 40, []), (18, 0, [some (some 665), none]), (0, 40, []), (18, 0, [some (some 667), none]), (0, 40, []), (18, 0, [some (some 669), none]), (0, 40, []), (18, 0, [some (some 671), none]), (0, 40, []), (18, 0, [some (some 673), none]), (0, 40, []), (18, 0, [some (some 675), none]), (0, 40, []), (18, 0, [some (some 677), none]), (0, 40, []), (18, 0, [some (some 679), none]), (0, 40, []), (18, 0, [some (some 681), none]), (0, 40, [])]
def shP : List SH := shP_0 ++ (shP_1 ++ (shP_2 ++ (shP_3 ++ (shP_4 ++ (shP_5 ++ (shP_6))))))
def shM_0 : List SH := [(21, 0, [none, some (some 683), some (some 684), none, some (some 685), some (some 686), some (some 687), some (some 688), some (some 689), some (some 690), some (some 691), some (some 692), none, none, some (some 693), some (some 694), some (some 695), none, none, none, none, some (some 696), none, some (some 697), some (some 698), some (some 699), some (some 700), some (some 701), some (some 702), some (some 703), some (some 704), some (some 705), none, none, some (some 706), some (some 707), some (some 708), some (some 709), some (some 710), none, none, none, some (some 711), none, none, some (some 712), some (some 713), some (some 714), some (some 715), some (some 716), some (some 717), some (some 718), some (some 719), none, some (some 720), some (some 721), some (some 722), some (some 723), none, some (some 724), some (some 725)]), (0, 64, []), (0, 4, []), (0, 4400, []), (0, 4400, []), (0, 4400, []), (0, 44, []), (0, 44, []), (0, 100, []), (0, 64, []), (0, 64, []), (0, 64, []), (0, 4225, []), (0, 25, []), (0, 512, []), (0, 64, []), (0, 64, []), (0, 64, []), (0, 256, []), (0, 256, []), (0, 256, []), (0, 256, []), (0, 2, []), (0, 160, []), (0, 32, []), (0, 32, []), (0, 32, []), (0, 32, []), (0, 16, []), (0, 5, []), (0, 24, []), (0, 24, []), (0, 24, []), (0, 24, []), (0, 5, []), (2, 18, []), (0, 18, []), (0, 288, []), (0, 60, []), (2, 6, []), (0, 160, []), (0, 4, []), (0, 10, []), (0, 400, [])]
def shM : List SH := shM_0
def SH0 : List SH := shP ++ (shM ++ [(1, 1, [])])
def chkV (r : Option ((Option AV ⊕ Nat) × List SH)) (S : List SH) : Bool := match r with
  | some (.inl none, S') => decide (S' = S)
  | _ => false
theorem chkV_ok {r : Option ((Option AV ⊕ Nat) × List SH)} {S : List SH} (h : chkV r S = true) : r = some (.inl none, S) := by
  unfold chkV at h
  split at h
  · rw [of_decide_eq_true h]
  · cases h
