theorem shelf0 : True := by
  have h := @Stand.multianewarray2F
  trivial
/-- some of a row's entries, by the gaps between them -/
def pick : List Nat → List Cond → List (Option Cond)
  | [], _ => []
  | g :: gs, l => match l.drop g with
    | [] => none :: pick gs []
    | w :: r => some w :: pick gs (w :: r)
theorem pick_mem (w : Cond) : ∀ (gs : List Nat) (l : List Cond), some w ∈ pick gs l → w ∈ l := by
  intro gs
  induction gs with
  | nil => intro l h; exact absurd h (List.not_mem_nil)
  | cons g gs ih =>
    intro l h
    unfold pick at h
    cases hd : l.drop g with
    | nil =>
      rw [hd] at h
      rcases List.mem_cons.mp h with h | h
      · cases h
      · exact absurd (ih [] h) (List.not_mem_nil)
    | cons a r =>
      rw [hd] at h
      refine List.mem_of_mem_drop (i := g) ?_
      rw [hd]
      rcases List.mem_cons.mp h with h | h
      · cases h; exact List.mem_cons_self
      · exact ih (a :: r) h
theorem gt9 {gs : List Nat} {l : List Cond} {L : List (Option Cond)} (h : pick gs l = L) {w : Cond} (j : Nat) (hj : L[j]? = some (some w)) : w ∈ l := pick_mem w gs l (h ▸ List.mem_of_getElem? hj)
