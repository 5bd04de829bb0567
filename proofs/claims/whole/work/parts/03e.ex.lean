section WWx
def exC {α β : Type} (o : Except Bool α) (k : α → Option β) (h : Bool → Option β) : Option β := match o with | .ok v => k v | .error b => h b
theorem exCo {α β : Type} {o : Except Bool α} {v : α} {k : α → Option β} {h : Bool → Option β} {r : β} (e : o = .ok v) (hf : exC o k h = some r) : k v = some r := by subst e; exact hf
theorem exCe {α β : Type} {o : Except Bool α} {b : Bool} {k : α → Option β} {h : Bool → Option β} {r : β} (e : o = .error b) (hf : exC o k h = some r) : h b = some r := by subst e; exact hf
end WWx
