/-! printed: the blocks are the code's -/
def mm_bok (M : Nat) (b : mm_B) : Bool := mm_cb M b.1 b.2 && mm_npc0 b == mm_npc M b.1 b.2
theorem mm_alle {α : Type} {l : List α} {f : α → Bool} {a : Nat} (h : l.length ≤ a) : (l.drop a).all f = true := by rw [List.drop_eq_nil_of_le h]; rfl
theorem mm_alld {α : Type} {l : List α} {f : α → Bool} {a n b : Nat} (h1 : ((l.drop a).take n).all f = true) (h2 : (l.drop b).all f = true) (hb : a + n = b := by rfl) : (l.drop a).all f = true := by
  rw [← List.take_append_drop n (l.drop a), List.all_append, h1, List.drop_drop, hb, h2]; rfl
theorem mm_all0 {α : Type} {l : List α} {f : α → Bool} (h : (l.drop 0).all f = true) : l.all f = true := h
theorem ck_Choice_init : (t_Choice_init.all (mm_bok q_Choice_init)) = true := by decide +kernel
theorem ck_Choice_begin : (t_Choice_begin.all (mm_bok q_Choice_begin)) = true := by decide +kernel
theorem ck_Choice_offer : (t_Choice_offer.all (mm_bok q_Choice_offer)) = true := by decide +kernel
theorem ck_Choice_findBest : (t_Choice_findBest.all (mm_bok q_Choice_findBest)) = true := by decide +kernel
theorem ck_Choice_bestOf : (t_Choice_bestOf.all (mm_bok q_Choice_bestOf)) = true := by decide +kernel
theorem ck_Choice_pick : (t_Choice_pick.all (mm_bok q_Choice_pick)) = true := by decide +kernel
theorem ck_Counter_init : (t_Counter_init.all (mm_bok q_Counter_init)) = true := by decide +kernel
theorem ck_Counter_begin : (t_Counter_begin.all (mm_bok q_Counter_begin)) = true := by decide +kernel
theorem ck_Counter_become : (t_Counter_become.all (mm_bok q_Counter_become)) = true := by decide +kernel
theorem ck_Counter_hasPlaces : (t_Counter_hasPlaces.all (mm_bok q_Counter_hasPlaces)) = true := by decide +kernel
theorem ck_Counter_gapCount : (t_Counter_gapCount.all (mm_bok q_Counter_gapCount)) = true := by decide +kernel
theorem ck_Counter_edgeOfSpan : (t_Counter_edgeOfSpan.all (mm_bok q_Counter_edgeOfSpan)) = true := by decide +kernel
theorem ck_Counter_lastNumberUpTo : (t_Counter_lastNumberUpTo.all (mm_bok q_Counter_lastNumberUpTo)) = true := by decide +kernel
theorem ck_Counter_firstNumberFrom : (t_Counter_firstNumberFrom.all (mm_bok q_Counter_firstNumberFrom)) = true := by decide +kernel
theorem ck_Flights_init : (t_Flights_init.all (mm_bok q_Flights_init)) = true := by decide +kernel
theorem ck_Flights_findFewest : (t_Flights_findFewest.all (mm_bok q_Flights_findFewest)) = true := by decide +kernel
theorem ck_Flights_place : (t_Flights_place.all (mm_bok q_Flights_place)) = true := by decide +kernel
theorem ck_Flights_isLikeOneAhead : (t_Flights_isLikeOneAhead.all (mm_bok q_Flights_isLikeOneAhead)) = true := by decide +kernel
theorem ck_Hills_init : (t_Hills_init.all (mm_bok q_Hills_init)) = true := by decide +kernel
theorem ck_Hills_become : (t_Hills_become.all (mm_bok q_Hills_become)) = true := by decide +kernel
theorem ck_Hills_rainIn : (t_Hills_rainIn.all (mm_bok q_Hills_rainIn)) = true := by decide +kernel
theorem ck_Hills_widths : (t_Hills_widths.all (mm_bok q_Hills_widths)) = true := by decide +kernel
theorem ck_Hills_shutCount : (t_Hills_shutCount.all (mm_bok q_Hills_shutCount)) = true := by decide +kernel
theorem ck_Hills_meetingAt : (t_Hills_meetingAt.all (mm_bok q_Hills_meetingAt)) = true := by decide +kernel
theorem ck_Hills_mendsWaiting : (t_Hills_mendsWaiting.all (mm_bok q_Hills_mendsWaiting)) = true := by decide +kernel
theorem ck_Hills_hasMendWaiting : (t_Hills_hasMendWaiting.all (mm_bok q_Hills_hasMendWaiting)) = true := by decide +kernel
theorem ck_Hills_passYear : (t_Hills_passYear.all (mm_bok q_Hills_passYear)) = true := by decide +kernel
theorem ck_Hills_doMendsDue : (t_Hills_doMendsDue.all (mm_bok q_Hills_doMendsDue)) = true := by decide +kernel
theorem ck_Hills_takeGiftsDue : (t_Hills_takeGiftsDue.all (mm_bok q_Hills_takeGiftsDue)) = true := by decide +kernel
theorem ck_Hut_init : (t_Hut_init.all (mm_bok q_Hut_init)) = true := by decide +kernel
theorem ck_Reader_init : (t_Reader_init.all (mm_bok q_Reader_init)) = true := by decide +kernel
theorem ck_Reader_take : (t_Reader_take.all (mm_bok q_Reader_take)) = true := by decide +kernel
theorem ck_Reader_readText : (t_Reader_readText.all (mm_bok q_Reader_readText)) = true := by decide +kernel
theorem ck_Reader_step : (t_Reader_step.all (mm_bok q_Reader_step)) = true := by decide +kernel
theorem ck_Reader_sortOf : (t_Reader_sortOf.all (mm_bok q_Reader_sortOf)) = true := by decide +kernel
theorem ck_Reader_keyHere : (t_Reader_keyHere.all (mm_bok q_Reader_keyHere)) = true := by decide +kernel
theorem ck_Reader_isWord : (t_Reader_isWord.all (mm_bok q_Reader_isWord)) = true := by decide +kernel
theorem ck_Reader_wordOf : (t_Reader_wordOf.all (mm_bok q_Reader_wordOf)) = true := by decide +kernel
theorem ck_Reader_namesOf : (t_Reader_namesOf.all (mm_bok q_Reader_namesOf)) = true := by decide +kernel
theorem ck_Reader_put : (t_Reader_put.all (mm_bok q_Reader_put)) = true := by decide +kernel
theorem ck_Reader_readOr : (t_Reader_readOr.all (mm_bok q_Reader_readOr)) = true := by decide +kernel
theorem ck_Reader_readAnd : (t_Reader_readAnd.all (mm_bok q_Reader_readAnd)) = true := by decide +kernel
theorem ck_Reader_readTest : (t_Reader_readTest.all (mm_bok q_Reader_readTest)) = true := by decide +kernel
theorem ck_Reader_readTerms : (t_Reader_readTerms.all (mm_bok q_Reader_readTerms)) = true := by decide +kernel
