section WWg0
def stL (i : Nat) : List Int32 := match stTab[i]? with | some q => stBy q.2.2 | none => []
def stOK (i : Nat) : Bool := decide (i < stTab.length)
def stLen (i : Nat) : Int32 := nI (stL i).length
def stCh (i : Nat) (k : Int32) : Int32 := (stL i).getD (Int32.toNatClampNeg k) 0
theorem stOK_q {i : Nat} (h : stOK i = true) : ∃ q, stTab[i]? = some q ∧ stL i = stBy q.2.2 := by
  have hl : i < stTab.length := of_decide_eq_true h
  exact ⟨stTab[i], List.getElem?_eq_getElem hl, by unfold stL; rw [List.getElem?_eq_getElem hl]⟩
theorem st_all : ∀ q ∈ stTab, (stBy q.2.2).length < 1000 ∧ ∀ b ∈ stBy q.2.2, b &&& 255 = b := by decide +kernel
theorem st_len (i : Nat) : (stL i).length < 1000 := by
  unfold stL
  cases h : stTab[i]? with
  | none => show ([] : List Int32).length < 1000; decide
  | some q => exact (st_all q (List.mem_of_getElem? h)).1
theorem st_byte (i k : Nat) : (stL i).getD k 0 &&& 255 = (stL i).getD k 0 := by
  have hb : ∀ b ∈ stL i, b &&& 255 = b := by
    unfold stL
    cases h : stTab[i]? with
    | none => intro b hb; exact absurd hb (List.not_mem_nil)
    | some q => exact (st_all q (List.mem_of_getElem? h)).2
  by_cases hk : k < (stL i).length
  · rw [List.getD_eq_getElem?_getD, List.getElem?_eq_getElem hk]
    exact hb _ (List.getElem_mem hk)
  · rw [List.getD_eq_getElem?_getD, List.getElem?_eq_none (Nat.le_of_not_lt hk)]
    decide
end WWg0
