def S_row (Rel : Sg → Sg → Prop) : Prop := ∀ (σ τ : Sg) (a1 : Int32) (a2 : Int32), Rel σ τ → ∃ (r : Int32) (σ' τ' : Sg), f_X5_row a1 a2 σ = some (r, σ') ∧ f_X6_row a1 a2 τ = some (r, τ') ∧ Rel σ' τ'
def S_lay (Rel : Sg → Sg → Prop) : Prop := ∀ (σ τ : Sg) (a1 : Int32) (a2 : Int32) (a3 : Int32), Rel σ τ → ∃ (r : Int32) (σ' τ' : Sg), f_X5_lay a1 a2 a3 σ = some (r, σ') ∧ f_X6_lay a1 a2 a3 τ = some (r, τ') ∧ Rel σ' τ'
def S_at (Rel : Sg → Sg → Prop) : Prop := ∀ (σ τ : Sg) (a1 : Int32) (a2 : Int32), Rel σ τ → ∃ (r : Int32) (σ' τ' : Sg), f_X5_at a1 a2 σ = some (r, σ') ∧ f_X6_at a1 a2 τ = some (r, τ') ∧ Rel σ' τ'
def S_tear (Rel : Sg → Sg → Prop) : Prop := ∀ (σ τ : Sg) (a1 : Int32), Rel σ τ → ∃ (r : Int32) (σ' τ' : Sg), f_X5_tear a1 σ = some (r, σ') ∧ f_X6_tear a1 τ = some (r, τ') ∧ Rel σ' τ'
def S_copy (Rel : Sg → Sg → Prop) : Prop := ∀ (σ τ : Sg) (a1 : Int32) (a2 : Int32) (a3 : Int32) (a4 : Int32) (a5 : Int32), Rel σ τ → ∃ (r : Int32) (σ' τ' : Sg), f_X5_copy a1 a2 a3 a4 a5 σ = some (r, σ') ∧ f_X6_copy a1 a2 a3 a4 a5 τ = some (r, τ') ∧ Rel σ' τ'
def S_mean (Rel : Sg → Sg → Prop) : Prop := ∀ (σ τ : Sg) (a1 : Int32), Rel σ τ → ∃ (r : Int32) (σ' τ' : Sg), f_X5_mean a1 σ = some (r, σ') ∧ f_X6_mean a1 τ = some (r, τ') ∧ Rel σ' τ'
def S_text (Rel : Sg → Sg → Prop) : Prop := ∀ (σ τ : Sg) (a1 : Int32) (a2 : Int32), Rel σ τ → ∃ (r : Int32) (σ' τ' : Sg), f_X5_text a1 a2 σ = some (r, σ') ∧ f_X6_text a1 a2 τ = some (r, τ') ∧ Rel σ' τ'
def S_put (Rel : Sg → Sg → Prop) : Prop := ∀ (σ τ : Sg) (a1 : Int32) (a2 : Int32) (a3 : Int32), Rel σ τ → ∃ (r : Int32) (σ' τ' : Sg), f_X5_put a1 a2 a3 σ = some (r, σ') ∧ f_X6_put a1 a2 a3 τ = some (r, τ') ∧ Rel σ' τ'
def S_fault (Rel : Sg → Sg → Prop) : Prop := ∀ (σ τ : Sg) (a1 : Int32), Rel σ τ → ∃ (r : Int32) (σ' τ' : Sg), f_X5_fault a1 σ = some (r, σ') ∧ f_X6_fault a1 τ = some (r, τ') ∧ Rel σ' τ'
def S_town (Rel : Sg → Sg → Prop) : Prop := ∀ (σ τ : Sg) (a1 : Int32), Rel σ τ → ∃ (r : Int32) (σ' τ' : Sg), f_X5_town a1 σ = some (r, σ') ∧ f_X6_town a1 τ = some (r, τ') ∧ Rel σ' τ'
def S_house (Rel : Sg → Sg → Prop) : Prop := ∀ (σ τ : Sg) (a1 : Int32) (a2 : Int32), Rel σ τ → ∃ (r : Int32) (σ' τ' : Sg), f_X5_house a1 a2 σ = some (r, σ') ∧ f_X6_house a1 a2 τ = some (r, τ') ∧ Rel σ' τ'
def S_mark (Rel : Sg → Sg → Prop) : Prop := ∀ (σ τ : Sg) (a1 : Int32) (a2 : Int32), Rel σ τ → ∃ (r : Int32) (σ' τ' : Sg), f_X5_mark a1 a2 σ = some (r, σ') ∧ f_X6_mark a1 a2 τ = some (r, τ') ∧ Rel σ' τ'
def S_walk (Rel : Sg → Sg → Prop) : Prop := ∀ (σ τ : Sg) (a1 : Int32), Rel σ τ → ∃ (r : Int32) (σ' τ' : Sg), f_X5_walk a1 σ = some (r, σ') ∧ f_X6_walk a1 τ = some (r, τ') ∧ Rel σ' τ'
def S_tap (Rel : Sg → Sg → Prop) : Prop := ∀ (σ τ : Sg) , Rel σ τ → ∃ (r : Int32) (σ' τ' : Sg), f_X5_tap σ = some (r, σ') ∧ f_X6_tap τ = some (r, τ') ∧ Rel σ' τ'
def S_slate (Rel : Sg → Sg → Prop) : Prop := ∀ (σ τ : Sg) (a1 : Int32) (a2 : Int32), Rel σ τ → ∃ (r : Int32) (σ' τ' : Sg), f_X5_slate a1 a2 σ = some (r, σ') ∧ f_X6_slate a1 a2 τ = some (r, τ') ∧ Rel σ' τ'
def S_frost (Rel : Sg → Sg → Prop) : Prop := ∀ (σ τ : Sg) (a1 : Int32), Rel σ τ → ∃ (r : Int32) (σ' τ' : Sg), f_X5_frost a1 σ = some (r, σ') ∧ f_X6_frost a1 τ = some (r, τ') ∧ Rel σ' τ'
def S_night (Rel : Sg → Sg → Prop) : Prop := ∀ (σ τ : Sg) , Rel σ τ → ∃ (r : Int32) (σ' τ' : Sg), f_X5_night σ = some (r, σ') ∧ f_X6_night τ = some (r, τ') ∧ Rel σ' τ'
def S_undo (Rel : Sg → Sg → Prop) : Prop := ∀ (σ τ : Sg) (a1 : Int32), Rel σ τ → ∃ (r : Int32) (σ' τ' : Sg), f_X5_undo a1 σ = some (r, σ') ∧ f_X6_undo a1 τ = some (r, τ') ∧ Rel σ' τ'
def S_keep (Rel : Sg → Sg → Prop) : Prop := ∀ (σ τ : Sg) (a1 : Int32), Rel σ τ → ∃ (r : Int32) (σ' τ' : Sg), f_X5_keep a1 σ = some (r, σ') ∧ f_X6_keep a1 τ = some (r, τ') ∧ Rel σ' τ'
def S_on (Rel : Sg → Sg → Prop) : Prop := ∀ (σ τ : Sg) (a1 : Int32), Rel σ τ → ∃ (r : Int32) (σ' τ' : Sg), f_X5_on a1 σ = some (r, σ') ∧ f_X6_on a1 τ = some (r, τ') ∧ Rel σ' τ'
def S_takes (Rel : Sg → Sg → Prop) : Prop := ∀ (σ τ : Sg) (a1 : Int32) (a2 : Int32), Rel σ τ → ∃ r : Int32, f_X5_takes a1 a2 σ = some r ∧ f_X6_takes a1 a2 τ = some r
def S_pays (Rel : Sg → Sg → Prop) : Prop := ∀ (σ τ : Sg) (a1 : Int32), Rel σ τ → ∃ r : Int32, f_X5_pays a1 σ = some r ∧ f_X6_pays a1 τ = some r
def S_who (Rel : Sg → Sg → Prop) : Prop := ∀ (σ τ : Sg) (a1 : Int32) (a2 : Int32), Rel σ τ → ∃ r : Int32, f_X5_who a1 a2 σ = some r ∧ f_X6_who a1 a2 τ = some r
def S_quarrels (Rel : Sg → Sg → Prop) : Prop := ∀ (σ τ : Sg) , Rel σ τ → ∃ r : Int32, f_X5_quarrels σ = some r ∧ f_X6_quarrels τ = some r
def S_soonest (Rel : Sg → Sg → Prop) : Prop := ∀ (σ τ : Sg) (a1 : Int32), Rel σ τ → ∃ r : Int32, f_X5_soonest a1 σ = some r ∧ f_X6_soonest a1 τ = some r
def S_intime (Rel : Sg → Sg → Prop) : Prop := ∀ (σ τ : Sg) (a1 : Int32) (a2 : Int32), Rel σ τ → ∃ (r : Int32) (σ' τ' : Sg), f_X5_intime a1 a2 σ = some (r, σ') ∧ f_X6_intime a1 a2 τ = some (r, τ') ∧ Rel σ' τ'
def S_many (Rel : Sg → Sg → Prop) : Prop := ∀ (σ τ : Sg) , Rel σ τ → ∃ (r : Int32) (σ' τ' : Sg), f_X5_many σ = some (r, σ') ∧ f_X6_many τ = some (r, τ') ∧ Rel σ' τ'
def S_dates (Rel : Sg → Sg → Prop) : Prop := ∀ (σ τ : Sg) (a1 : Int32), Rel σ τ → ∃ (r : Int32) (σ' τ' : Sg), f_X5_dates a1 σ = some (r, σ') ∧ f_X6_dates a1 τ = some (r, τ') ∧ Rel σ' τ'
def S_whose (Rel : Sg → Sg → Prop) : Prop := ∀ (σ τ : Sg) (a1 : Int32), Rel σ τ → ∃ (r : Int32) (σ' τ' : Sg), f_X5_whose a1 σ = some (r, σ') ∧ f_X6_whose a1 τ = some (r, τ') ∧ Rel σ' τ'
def S_kinds (Rel : Sg → Sg → Prop) : Prop := ∀ (σ τ : Sg) (a1 : Int32), Rel σ τ → ∃ (r : Int32) (σ' τ' : Sg), f_X5_kinds a1 σ = some (r, σ') ∧ f_X6_kinds a1 τ = some (r, τ') ∧ Rel σ' τ'
def S_test (Rel : Sg → Sg → Prop) : Prop := ∀ (σ τ : Sg) (a1 : Int32), Rel σ τ → ∃ (r : Int32) (σ' τ' : Sg), f_X5_test a1 σ = some (r, σ') ∧ f_X6_test a1 τ = some (r, τ') ∧ Rel σ' τ'
def S_sets (Rel : Sg → Sg → Prop) : Prop := ∀ (σ τ : Sg) (a1 : Int32), Rel σ τ → ∃ (r : Int32) (σ' τ' : Sg), f_X5_sets a1 σ = some (r, σ') ∧ f_X6_sets a1 τ = some (r, τ') ∧ Rel σ' τ'
def S_sure (Rel : Sg → Sg → Prop) : Prop := ∀ (σ τ : Sg) (a1 : Int32), Rel σ τ → ∃ (r : Int32) (σ' τ' : Sg), f_X5_sure a1 σ = some (r, σ') ∧ f_X6_sure a1 τ = some (r, τ') ∧ Rel σ' τ'
def S_duel (Rel : Sg → Sg → Prop) : Prop := ∀ (σ τ : Sg) (a1 : Int32), Rel σ τ → ∃ (r : Int32) (σ' τ' : Sg), f_X5_duel a1 σ = some (r, σ') ∧ f_X6_duel a1 τ = some (r, τ') ∧ Rel σ' τ'
def S_odds (Rel : Sg → Sg → Prop) : Prop := ∀ (σ τ : Sg) (a1 : Int32) (a2 : Int32) (a3 : Int32), Rel σ τ → ∃ (r : Int32) (σ' τ' : Sg), f_X5_odds a1 a2 a3 σ = some (r, σ') ∧ f_X6_odds a1 a2 a3 τ = some (r, τ') ∧ Rel σ' τ'
def S_mid (Rel : Sg → Sg → Prop) : Prop := ∀ (σ τ : Sg) (a1 : Int32) (a2 : Int32) (a3 : Int32), Rel σ τ → ∃ (r : Int32) (σ' τ' : Sg), f_X5_mid a1 a2 a3 σ = some (r, σ') ∧ f_X6_mid a1 a2 a3 τ = some (r, τ') ∧ Rel σ' τ'
def S_lots (Rel : Sg → Sg → Prop) : Prop := ∀ (σ τ : Sg) (a1 : Int32) (a2 : Int32), Rel σ τ → ∃ (r : Int32) (σ' τ' : Sg), f_X5_lots a1 a2 σ = some (r, σ') ∧ f_X6_lots a1 a2 τ = some (r, τ') ∧ Rel σ' τ'
def S_asked (Rel : Sg → Sg → Prop) : Prop := ∀ (σ τ : Sg) , Rel σ τ → ∃ r : Int32, f_X5_asked σ = some r ∧ f_X6_asked τ = some r
def S_upper (Rel : Sg → Sg → Prop) : Prop := ∀ (σ τ : Sg) , Rel σ τ → ∃ r : Int64, f_X5_upper σ = some r ∧ f_X6_upper τ = some r
def S_lower (Rel : Sg → Sg → Prop) : Prop := ∀ (σ τ : Sg) , Rel σ τ → ∃ r : Int64, f_X5_lower σ = some r ∧ f_X6_lower τ = some r
def S_count (Rel : Sg → Sg → Prop) : Prop := ∀ (σ τ : Sg) (a1 : Int32), Rel σ τ → ∃ r : Int32, f_X5_count a1 σ = some r ∧ f_X6_count a1 τ = some r
def S_finding (Rel : Sg → Sg → Prop) : Prop := ∀ (σ τ : Sg) , Rel σ τ → ∃ r : Int32, f_X5_finding σ = some r ∧ f_X6_finding τ = some r
def S_findings (Rel : Sg → Sg → Prop) : Prop := ∀ (σ τ : Sg) (a1 : Int32), Rel σ τ → ∃ r : Int32, f_X5_findings a1 σ = some r ∧ f_X6_findings a1 τ = some r
def S_digest (Rel : Sg → Sg → Prop) : Prop := ∀ (σ τ : Sg) , Rel σ τ → ∃ r : Int64, f_X5_digest σ = some r ∧ f_X6_digest τ = some r
def S_all (Rel : Sg → Sg → Prop) : Prop := S_row Rel ∧ S_lay Rel ∧ S_at Rel ∧ S_tear Rel ∧ S_copy Rel ∧ S_mean Rel ∧ S_text Rel ∧ S_put Rel ∧ S_fault Rel ∧ S_town Rel ∧ S_house Rel ∧ S_mark Rel ∧ S_walk Rel ∧ S_tap Rel ∧ S_slate Rel ∧ S_frost Rel ∧ S_night Rel ∧ S_undo Rel ∧ S_keep Rel ∧ S_on Rel ∧ S_takes Rel ∧ S_pays Rel ∧ S_who Rel ∧ S_quarrels Rel ∧ S_soonest Rel ∧ S_intime Rel ∧ S_many Rel ∧ S_dates Rel ∧ S_whose Rel ∧ S_kinds Rel ∧ S_test Rel ∧ S_sets Rel ∧ S_sure Rel ∧ S_duel Rel ∧ S_odds Rel ∧ S_mid Rel ∧ S_lots Rel ∧ S_asked Rel ∧ S_upper Rel ∧ S_lower Rel ∧ S_count Rel ∧ S_finding Rel ∧ S_findings Rel ∧ S_digest Rel
