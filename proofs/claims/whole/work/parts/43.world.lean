/-! whose a thing is: what both sides reckon, without cells -/
/-- rows, first owner, first land, worth, homes, sendings, now, how many rows, the judge's land, the laws -/
abbrev Wd : Type := (Nat → Nat → Int32) × Int32 × Int32 × Int32 × (Nat → Int32) × (Nat → Nat → Int32) × Int32 × Nat × Nat × (Nat → LDt)
def W_R (w : Wd) : Nat → Nat → Int32 := w.1
def W_fo (w : Wd) : Int32 := w.2.1
def W_fl (w : Wd) : Int32 := w.2.2.1
def W_wo (w : Wd) : Int32 := w.2.2.2.1
def W_hm (w : Wd) : Nat → Int32 := w.2.2.2.2.1
def W_sd (w : Wd) : Nat → Nat → Int32 := w.2.2.2.2.2.1
def W_no (w : Wd) : Int32 := w.2.2.2.2.2.2.1
def W_n (w : Wd) : Nat := w.2.2.2.2.2.2.2.1
def W_f (w : Wd) : Nat := w.2.2.2.2.2.2.2.2.1
def W_D (w : Wd) : Nat → LDt := w.2.2.2.2.2.2.2.2.2
/-- to which land a land sends -/
def tgt (w : Wd) (i kind : Nat) (ow : Int32) (l : Nat) : Int32 := if W_sd w l kind = 1 then W_R w i 2 else if W_sd w l kind = 2 then (if i = 0 then W_fl w else W_R w (i - 1) 2) else if W_sd w l kind = 3 then W_hm w (W_R w i 1).toNatClampNeg else if W_sd w l kind = 4 then W_hm w ow.toNatClampNeg else if W_sd w l kind = 5 then W_fl w else nI l
/-- the land that rules; none: a ring; m: the lands that were asked -/
def rulF (tg : Nat → Int32) : Nat → Nat → Nat → Option Nat
  | 0, _, _ => none
  | fu + 1, m, l => if (tg l).toNatClampNeg = l then some l else if m.testBit (tg l).toNatClampNeg = true then none else rulF tg fu (m ||| 2 ^ (tg l).toNatClampNeg) (tg l).toNatClampNeg
def rul (w : Wd) (i kind : Nat) (ow : Int32) : Option Nat := rulF (tgt w i kind ow) 6 (2 ^ W_f w) (W_f w)
def askd (w : Wd) (i kind : Nat) (ow : Int32) : Nat := (rul w i kind ow).getD (W_f w)
/-- the letters' values -/
def fct (w : Wd) (i left : Nat) (mind d j : Int32) : Nat → Int32
  | 0 => mind
  | 1 => b2 (W_R w i 5 &&& 1 ≠ 0)
  | 2 => b2 (W_R w i 5 &&& 2 ≠ 0)
  | 3 => b2 (regd (W_R w) (W_fo w) i = frm (W_R w) (W_fo w) i)
  | 4 => b2 (W_R w left 0 = 3 ∨ W_R w left 0 = 4)
  | 5 => W_R w i 4
  | 6 => W_wo w
  | 7 => d
  | 8 => j
  | 9 => nI (i - left + 1)
  | 10 => W_R w i 2
  | 11 => W_hm w (W_R w i 1).toNatClampNeg
  | _ => W_hm w (frm (W_R w) (W_fo w) left).toNatClampNeg
/-- the clause that a kind asks for; 9: none -/
def klt (k : Nat) : Nat := [0, 1, 2, 9, 9, 9, 3, 4].getD k 9
def kd (w : Wd) (i : Nat) : Nat := (W_R w i 0).toNatClampNeg
/-- a clause of that letter holds for passing i; sp: the lands whose s is stopped -/
def gvs (w : Wd) (sp i left : Nat) (mind : Int32) (kind lt : Nat) : Bool := !(decide (lt = 0) && sp.testBit (askd w i kind (frm (W_R w) (W_fo w) left))) && hs (W_D w (askd w i kind (frm (W_R w) (W_fo w) left))) lt (fct w i left mind 0 (W_R w i 3 - W_R w left 3))
/-- by which passing it left the owner's hands; s: 0 in hand, else that passing and one -/
def lft (s i : Nat) : Nat := if s = 0 then i else s - 1
def own (w : Wd) (s i : Nat) : Int32 := frm (W_R w) (W_fo w) (lft s i)
def hnd (w : Wd) (sp i s : Nat) (mind : Int32) : Nat := if (s = 0 ∧ kd w i ≤ 2) ∨ W_R w i 1 = frm (W_R w) (W_fo w) (lft s i) ∨ (klt (kd w i) < 8 ∧ gvs w sp i (lft s i) mind (kd w i) (klt (kd w i)) = true) then 0 else lft s i + 1
/-- the first of c numbers, from m on, of which p holds -/
def fmo (p : Nat → Bool) : Nat → Nat → Option Nat
  | 0, _ => none
  | c + 1, m => if p m = true then some m else fmo p c (m + 1)
def mth (w : Wd) (i : Nat) : Nat := (W_R w i 3).toNatClampNeg
def lst (w : Wd) (i : Nat) : Nat := if i + 1 < W_n w then mth w (i + 1) else (W_no w).toNatClampNeg
def py (w : Wd) (i left : Nat) (mind : Int32) (m : Nat) : Bool := hs (W_D w (askd w i 8 (frm (W_R w) (W_fo w) left))) 5 (fct w i left mind (nI m - W_R w i 3) (nI m - W_R w left 3))
def wtm (w : Wd) (i left : Nat) (mind : Int32) : Option Nat := fmo (py w i left mind) (lst w i - mth w i) (mth w i + 1)
def ofM : Option Nat → Int32
  | none => -1
  | some m => nI m
def nxt (w : Wd) (sp i s : Nat) (mind : Int32) : Nat := if hnd w sp i s mind = 0 then 0 else if (wtm w i (hnd w sp i s mind - 1) mind).isSome = true then 0 else hnd w sp i s mind
def stt (w : Wd) (sp : Nat) (md : Nat → Int32) : Nat → Nat
  | 0 => 0
  | i + 1 => nxt w sp i (stt w sp md i) (md i)
/-- what is told is as it must be -/
def WV (w : Wd) : Prop := W_n w ≤ 20 ∧ W_f w < 6 ∧ (∀ i, i < W_n w → rowV 12 (W_no w).toInt (W_R w i)) ∧ (∀ i, i + 1 < W_n w → (W_R w i 3).toInt ≤ (W_R w (i + 1) 3).toInt) ∧ (∀ k, 0 ≤ (W_hm w k).toInt ∧ (W_hm w k).toInt ≤ 5) ∧ (0 ≤ (W_fo w).toInt ∧ (W_fo w).toInt < 12) ∧ (0 ≤ (W_fl w).toInt ∧ (W_fl w).toInt ≤ 5) ∧ (0 ≤ (W_no w).toInt ∧ (W_no w).toInt ≤ 599) ∧ (∀ l k, l < 6 → k < 9 → 0 ≤ (W_sd w l k).toInt ∧ (W_sd w l k).toInt ≤ 5) ∧ ∀ l, l < 6 → WD (W_D w l)
theorem ofN {x : Int32} {a b : Int} (h0 : a ≤ x.toInt) (h1 : x.toInt ≤ b) (ha : 0 ≤ a := by omega) : ∃ k : Nat, x = nI k ∧ (k : Int) = x.toInt ∧ x.toNatClampNeg = k := ⟨x.toNatClampNeg, nI_toI (by omega), clampI (by omega), rfl⟩
theorem frm_ok {w : Wd} (hw : WV w) {i : Nat} (hi : i ≤ W_n w) : 0 ≤ (frm (W_R w) (W_fo w) i).toInt ∧ (frm (W_R w) (W_fo w) i).toInt < 12 := by
  unfold frm
  split
  · exact hw.2.2.2.2.2.1
  · exact (hw.2.2.1 (i - 1) (by omega)).2.1
theorem tgt_ok {w : Wd} (hw : WV w) {i kind l : Nat} {ow : Int32} (hi : i < W_n w) (hl : l < 6) : 0 ≤ (tgt w i kind ow l).toInt ∧ (tgt w i kind ow l).toInt ≤ 5 := by
  obtain ⟨a1, a2, a3, a4, a5, a6, a7, a8, a9, a10⟩ := hw
  unfold tgt
  split
  · exact (a3 i hi).2.2.1
  · split
    · split
      · exact a7
      · exact (a3 (i - 1) (by omega)).2.2.1
    · split
      · exact a5 _
      · split
        · exact a5 _
        · split
          · exact a7
          · rw [nI_toInt (by omega)]
            omega
theorem rulF_lt {tg : Nat → Int32} (ht : ∀ l, l < 6 → 0 ≤ (tg l).toInt ∧ (tg l).toInt ≤ 5) : ∀ (fu m l r : Nat), l < 6 → rulF tg fu m l = some r → r < 6 := by
  intro fu
  induction fu with
  | zero => intro m l r _ h; cases h
  | succ fu ih =>
    intro m l r hl h
    unfold rulF at h
    split at h
    · cases h; exact hl
    · split at h
      · cases h
      · have := ht l hl
        have := clampI this.1
        exact ih _ _ _ (by omega) h
theorem askd_lt {w : Wd} (hw : WV w) {i kind : Nat} {ow : Int32} (hi : i < W_n w) : askd w i kind ow < 6 := by
  unfold askd
  cases h : rul w i kind ow with
  | none => exact hw.2.1
  | some r => exact rulF_lt (fun l hl => tgt_ok hw hi hl) _ _ _ _ hw.2.1 h
theorem run_cong {d : LDt} {fc fc' : Nat → Int32} (e : ∀ k, k < 13 → fc k = fc' k) {en : Nat} {sh : Nat → Nat} {bo : Nat → Bool} : ∀ (fu k : Nat) (L : List Int32), (∀ j, k ≤ j → j < en → SOK d sh bo en j) → run d fc en fu k L = run d fc' en fu k L := by
  intro fu
  induction fu with
  | zero => intro k L _; rfl
  | succ fu ih =>
    intro k L hk
    by_cases hek : en ≤ k
    · rw [run, run, if_pos hek, if_pos hek]
    · rw [run_s (by omega), run_s (by omega)]
      have s := hk k (Nat.le_refl _) (by omega)
      have i1 : ∀ L, run d fc en fu (k + 1) L = run d fc' en fu (k + 1) L := fun L => ih _ L fun j h1 h2 => hk j (by omega) h2
      unfold SOK at s
      by_cases o0 : lOp d k = 0
      · rw [if_pos o0, if_pos o0, i1]
      · rw [if_neg o0, if_neg o0]
        by_cases o1 : lOp d k = 1
        · rw [if_pos o1, if_pos o1, i1, e _ (by omega)]
        · rw [if_neg o1, if_neg o1, i1, i1, i1]
          by_cases o2 : 11 ≤ lOp d k
          · rw [ih (lTg d k) L fun j h1 h2 => hk j (by omega) h2]
          · simp only [if_neg o2]
theorem hsN_cong {d : LDt} (hw : WD d) {lt : Nat} {fc fc' : Nat → Int32} (e : ∀ k, k < 13 → fc k = fc' k) : ∀ n, n ≤ lCn d → hsN d lt fc n = hsN d lt fc' n := by
  intro n
  induction n with
  | zero => intro _; rfl
  | succ n ih =>
    intro hn
    unfold hsN
    rw [ih (by omega)]
    obtain ⟨-, -, -, sh, bo, -, -, -, -, w8⟩ := hw.2 n (by omega)
    rw [show cls d fc n = cls d fc' n from run_cong e _ _ _ w8]
theorem hs_cong {d : LDt} (hw : WD d) {lt : Nat} {fc fc' : Nat → Int32} (e : ∀ k, k < 13 → fc k = fc' k) : hs d lt fc = hs d lt fc' := hsN_cong hw e _ (Nat.le_refl _)
