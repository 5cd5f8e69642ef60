theorem mm_okT {M : Nat} {t : List mm_B} (ht : ∀ k, PP M k = mm_at ([], .inl 0) t k) (hc : t.all (mm_bok M) = true) (h0 : mm_npc0 (PP M 0) = 0) : ∀ k : Nat, mm_cb M (PP M k).1 (PP M k).2 = true ∧ mm_npc0 (PP M k) = mm_npc M (PP M k).1 (PP M k).2 ∧ mm_npc0 (PP M 0) = 0 := by
  have dflt : ∀ (l : List mm_B) (n : Nat), mm_at ([], .inl 0) l n ∈ l ∨ mm_at (([], .inl 0) : mm_B) l n = ([], .inl 0) := by
    intro l
    induction l with
    | nil => intro n; exact Or.inr rfl
    | cons a l ih =>
      intro n
      cases n with
      | zero => exact Or.inl List.mem_cons_self
      | succ n =>
        rcases ih n with h | h
        · exact Or.inl (List.mem_cons_of_mem _ h)
        · exact Or.inr h
  intro k
  rcases dflt t k with h | h
  · have h1 := List.all_eq_true.mp hc _ h
    rw [← ht k] at h1
    unfold mm_bok at h1
    simp only [Bool.and_eq_true, beq_iff_eq] at h1
    exact ⟨h1.1, h1.2, h0⟩
  · rw [← ht k] at h
    refine ⟨by rw [h]; rfl, ?_, h0⟩
    rw [h]
    exact h0.symm
theorem mm_spl {P : Nat → Prop} {a m b : Nat} (h1 : ∀ M, a ≤ M → M < m → P M) (h2 : ∀ M, m ≤ M → M < b → P M) : ∀ M, a ≤ M → M < b → P M := fun M g1 g2 => if h : M < m then h1 M g1 h else h2 M (Nat.not_lt.mp h) g2
theorem mm_lf {P : Nat → Prop} {a b : Nat} (hb : b = a + 1) (h : P a) : ∀ M, a ≤ M → M < b → P M := fun M g1 g2 => by rw [show M = a by omega]; exact h
def mm_okP (M : Nat) : Prop := ∀ k : Nat, mm_cb M (PP M k).1 (PP M k).2 = true ∧ mm_npc0 (PP M k) = mm_npc M (PP M k).1 (PP M k).2 ∧ mm_npc0 (PP M 0) = 0
theorem ok_0 : mm_okP 0 := mm_okT (fun _ => rfl) ck_Choice_init rfl
theorem ok_1 : mm_okP 1 := mm_okT (fun _ => rfl) ck_Choice_begin rfl
theorem ok_2 : mm_okP 2 := mm_okT (fun _ => rfl) ck_Choice_offer rfl
theorem ok_3 : mm_okP 3 := mm_okT (fun _ => rfl) ck_Choice_findBest rfl
theorem ok_4 : mm_okP 4 := mm_okT (fun _ => rfl) ck_Choice_bestOf rfl
theorem ok_5 : mm_okP 5 := mm_okT (fun _ => rfl) ck_Choice_pick rfl
theorem ok_6 : mm_okP 6 := mm_okT (fun _ => rfl) ck_Counter_init rfl
theorem ok_7 : mm_okP 7 := mm_okT (fun _ => rfl) ck_Counter_begin rfl
theorem ok_8 : mm_okP 8 := mm_okT (fun _ => rfl) ck_Counter_become rfl
theorem ok_9 : mm_okP 9 := mm_okT (fun _ => rfl) ck_Counter_hasPlaces rfl
theorem ok_10 : mm_okP 10 := mm_okT (fun _ => rfl) ck_Counter_gapCount rfl
theorem ok_11 : mm_okP 11 := mm_okT (fun _ => rfl) ck_Counter_edgeOfSpan rfl
theorem ok_12 : mm_okP 12 := mm_okT (fun _ => rfl) ck_Counter_lastNumberUpTo rfl
theorem ok_13 : mm_okP 13 := mm_okT (fun _ => rfl) ck_Counter_firstNumberFrom rfl
theorem ok_14 : mm_okP 14 := mm_okT (fun _ => rfl) ck_Flights_init rfl
theorem ok_15 : mm_okP 15 := mm_okT (fun _ => rfl) ck_Flights_findFewest rfl
theorem ok_16 : mm_okP 16 := mm_okT (fun _ => rfl) ck_Flights_place rfl
theorem ok_17 : mm_okP 17 := mm_okT (fun _ => rfl) ck_Flights_isLikeOneAhead rfl
theorem ok_18 : mm_okP 18 := mm_okT (fun _ => rfl) ck_Hills_init rfl
theorem ok_19 : mm_okP 19 := mm_okT (fun _ => rfl) ck_Hills_become rfl
theorem ok_20 : mm_okP 20 := mm_okT (fun _ => rfl) ck_Hills_rainIn rfl
theorem ok_21 : mm_okP 21 := mm_okT (fun _ => rfl) ck_Hills_widths rfl
theorem ok_22 : mm_okP 22 := mm_okT (fun _ => rfl) ck_Hills_shutCount rfl
theorem ok_23 : mm_okP 23 := mm_okT (fun _ => rfl) ck_Hills_meetingAt rfl
theorem ok_24 : mm_okP 24 := mm_okT (fun _ => rfl) ck_Hills_mendsWaiting rfl
theorem ok_25 : mm_okP 25 := mm_okT (fun _ => rfl) ck_Hills_hasMendWaiting rfl
theorem ok_26 : mm_okP 26 := mm_okT (fun _ => rfl) ck_Hills_passYear rfl
theorem ok_27 : mm_okP 27 := mm_okT (fun _ => rfl) ck_Hills_doMendsDue rfl
theorem ok_28 : mm_okP 28 := mm_okT (fun _ => rfl) ck_Hills_takeGiftsDue rfl
theorem ok_29 : mm_okP 29 := mm_okT (fun _ => rfl) ck_Hut_init rfl
theorem ok_30 : mm_okP 30 := mm_okT (fun _ => rfl) ck_Reader_init rfl
theorem ok_31 : mm_okP 31 := mm_okT (fun _ => rfl) ck_Reader_take rfl
theorem ok_32 : mm_okP 32 := mm_okT (fun _ => rfl) ck_Reader_readText rfl
theorem ok_33 : mm_okP 33 := mm_okT (fun _ => rfl) ck_Reader_step rfl
theorem ok_34 : mm_okP 34 := mm_okT (fun _ => rfl) ck_Reader_sortOf rfl
theorem ok_35 : mm_okP 35 := mm_okT (fun _ => rfl) ck_Reader_keyHere rfl
theorem ok_36 : mm_okP 36 := mm_okT (fun _ => rfl) ck_Reader_isWord rfl
theorem ok_37 : mm_okP 37 := mm_okT (fun _ => rfl) ck_Reader_wordOf rfl
theorem ok_38 : mm_okP 38 := mm_okT (fun _ => rfl) ck_Reader_namesOf rfl
theorem ok_39 : mm_okP 39 := mm_okT (fun _ => rfl) ck_Reader_put rfl
theorem ok_40 : mm_okP 40 := mm_okT (fun _ => rfl) ck_Reader_readOr rfl
theorem ok_41 : mm_okP 41 := mm_okT (fun _ => rfl) ck_Reader_readAnd rfl
theorem ok_42 : mm_okP 42 := mm_okT (fun _ => rfl) ck_Reader_readTest rfl
theorem ok_43 : mm_okP 43 := mm_okT (fun _ => rfl) ck_Reader_readTerms rfl
theorem ok_44 : mm_okP 44 := mm_okT (fun _ => rfl) ck_Reader_readTerm rfl
theorem ok_45 : mm_okP 45 := mm_okT (fun _ => rfl) ck_Reader_readPart rfl
theorem ok_46 : mm_okP 46 := mm_okT (fun _ => rfl) ck_Reader_readNumber rfl
theorem ok_47 : mm_okP 47 := mm_okT (fun _ => rfl) ck_Reader_readName rfl
theorem ok_48 : mm_okP 48 := mm_okT (fun _ => rfl) ck_Reader_readOperand rfl
theorem ok_49 : mm_okP 49 := mm_okT (fun _ => rfl) ck_Roster_init rfl
theorem ok_50 : mm_okP 50 := mm_okT (fun _ => rfl) ck_Roster_findBest rfl
theorem ok_51 : mm_okP 51 := mm_okT (fun _ => rfl) ck_Roster_ableOn rfl
theorem ok_52 : mm_okP 52 := mm_okT (fun _ => rfl) ck_Roster_pick rfl
theorem ok_53 : mm_okP 53 := mm_okT (fun _ => rfl) ck_Roster_mayBeBetter rfl
theorem ok_54 : mm_okP 54 := mm_okT (fun _ => rfl) ck_Roster_takeAsBest rfl
theorem ok_55 : mm_okP 55 := mm_okT (fun _ => rfl) ck_Rows_init rfl
theorem ok_56 : mm_okP 56 := mm_okT (fun _ => rfl) ck_Rows_isFull rfl
theorem ok_57 : mm_okP 57 := mm_okT (fun _ => rfl) ck_Rows_has rfl
theorem ok_58 : mm_okP 58 := mm_okT (fun _ => rfl) ck_Rows_add rfl
theorem ok_59 : mm_okP 59 := mm_okT (fun _ => rfl) ck_Rows_at rfl
theorem ok_60 : mm_okP 60 := mm_okT (fun _ => rfl) ck_Rows_put rfl
theorem ok_61 : mm_okP 61 := mm_okT (fun _ => rfl) ck_Rows_become rfl
theorem ok_62 : mm_okP 62 := mm_okT (fun _ => rfl) ck_Stretch_init rfl
theorem ok_63 : mm_okP 63 := mm_okT (fun _ => rfl) ck_Stretch_begin rfl
theorem ok_64 : mm_okP 64 := mm_okT (fun _ => rfl) ck_Stretch_become rfl
theorem ok_65 : mm_okP 65 := mm_okT (fun _ => rfl) ck_Stretch_isOf rfl
theorem ok_66 : mm_okP 66 := mm_okT (fun _ => rfl) ck_Stretch_meets rfl
theorem ok_67 : mm_okP 67 := mm_okT (fun _ => rfl) ck_Stretch_effort rfl
theorem ok_68 : mm_okP 68 := mm_okT (fun _ => rfl) ck_Stretch_wear rfl
theorem ok_69 : mm_okP 69 := mm_okT (fun _ => rfl) ck_Stretch_wearAndBare rfl
theorem ok_70 : mm_okP 70 := mm_okT (fun _ => rfl) ck_Stretch_holds rfl
theorem ok_71 : mm_okP 71 := mm_okT (fun _ => rfl) ck_Stretch_grow rfl
theorem ok_72 : mm_okP 72 := mm_okT (fun _ => rfl) ck_Stretch_mendTo rfl
theorem ok_73 : mm_okP 73 := mm_okT (fun _ => rfl) ck_Text_init rfl
theorem ok_74 : mm_okP 74 := mm_okT (fun _ => rfl) ck_Text_begin rfl
theorem ok_75 : mm_okP 75 := mm_okT (fun _ => rfl) ck_Text_workOut rfl
theorem ok_76 : mm_okP 76 := mm_okT (fun _ => rfl) ck_Text_join rfl
theorem ok_77 : mm_okP 77 := mm_okT (fun _ => rfl) ck_Walk_init rfl
theorem ok_78 : mm_okP 78 := mm_okT (fun _ => rfl) ck_Walk_weigh rfl
theorem ok_79 : mm_okP 79 := mm_okT (fun _ => rfl) ck_Walk_tread rfl
theorem ok_80 : mm_okP 80 := mm_okT (fun _ => rfl) ck_Walk_find rfl
theorem ok_81 : mm_okP 81 := mm_okT (fun _ => rfl) ck_Walk_measure rfl
theorem ok_82 : mm_okP 82 := mm_okT (fun _ => rfl) ck_Walk_bringNearer rfl
theorem ok_83 : mm_okP 83 := mm_okT (fun _ => rfl) ck_Walk_firstOnward rfl
theorem ok_84 : mm_okP 84 := mm_okT (fun _ => rfl) ck_Walk_otherEnd rfl
theorem ok_85 : mm_okP 85 := mm_okT (fun _ => rfl) ck_H_init rfl
theorem ok_86 : mm_okP 86 := mm_okT (fun _ => rfl) ck_H_stretch rfl
theorem ok_87 : mm_okP 87 := mm_okT (fun _ => rfl) ck_H_told rfl
theorem ok_88 : mm_okP 88 := mm_okT (fun _ => rfl) ck_H_as rfl
theorem ok_89 : mm_okP 89 := mm_okT (fun _ => rfl) ck_H_set rfl
theorem ok_90 : mm_okP 90 := mm_okT (fun _ => rfl) ck_H_trip rfl
theorem ok_91 : mm_okP 91 := mm_okT (fun _ => rfl) ck_H_boots rfl
theorem ok_92 : mm_okP 92 := mm_okT (fun _ => rfl) ck_H_way rfl
theorem ok_93 : mm_okP 93 := mm_okT (fun _ => rfl) ck_H_without rfl
theorem ok_94 : mm_okP 94 := mm_okT (fun _ => rfl) ck_H_rain rfl
theorem ok_95 : mm_okP 95 := mm_okT (fun _ => rfl) ck_H_run rfl
theorem ok_96 : mm_okP 96 := mm_okT (fun _ => rfl) ck_H_lost rfl
theorem ok_97 : mm_okP 97 := mm_okT (fun _ => rfl) ck_H_feed rfl
theorem ok_98 : mm_okP 98 := mm_okT (fun _ => rfl) ck_H_trim rfl
theorem ok_99 : mm_okP 99 := mm_okT (fun _ => rfl) ck_H_text rfl
theorem ok_100 : mm_okP 100 := mm_okT (fun _ => rfl) ck_H_of rfl
theorem ok_101 : mm_okP 101 := mm_okT (fun _ => rfl) ck_H_why rfl
theorem ok_102 : mm_okP 102 := mm_okT (fun _ => rfl) ck_H_rule rfl
theorem ok_103 : mm_okP 103 := mm_okT (fun _ => rfl) ck_H_closing rfl
theorem ok_104 : mm_okP 104 := mm_okT (fun _ => rfl) ck_H_washed rfl
theorem ok_105 : mm_okP 105 := mm_okT (fun _ => rfl) ck_H_mend rfl
theorem ok_106 : mm_okP 106 := mm_okT (fun _ => rfl) ck_H_mendTold rfl
theorem ok_107 : mm_okP 107 := mm_okT (fun _ => rfl) ck_H_worth rfl
theorem ok_108 : mm_okP 108 := mm_okT (fun _ => rfl) ck_H_choose rfl
theorem ok_109 : mm_okP 109 := mm_okT (fun _ => rfl) ck_H_choice rfl
theorem ok_110 : mm_okP 110 := mm_okT (fun _ => rfl) ck_H_clear rfl
theorem ok_111 : mm_okP 111 := mm_okT (fun _ => rfl) ck_H_donor rfl
theorem ok_112 : mm_okP 112 := mm_okT (fun _ => rfl) ck_H_load rfl
theorem ok_113 : mm_okP 113 := mm_okT (fun _ => rfl) ck_H_flight rfl
theorem ok_114 : mm_okP 114 := mm_okT (fun _ => rfl) ck_H_person rfl
theorem ok_115 : mm_okP 115 := mm_okT (fun _ => rfl) ck_H_job rfl
theorem ok_116 : mm_okP 116 := mm_okT (fun _ => rfl) ck_H_beds rfl
theorem ok_117 : mm_okP 117 := mm_okT (fun _ => rfl) ck_H_roster rfl
theorem ok_118 : mm_okP 118 := mm_okT (fun _ => rfl) ck_H_counter rfl
theorem ok_119 : mm_okP 119 := mm_okT (fun _ => rfl) ck_H_note rfl
theorem ok_120 : mm_okP 120 := mm_okT (fun _ => rfl) ck_H_span rfl
theorem ok_121 : mm_okP 121 := mm_okT (fun _ => rfl) ck_H_sum rfl
theorem ok_122 : mm_okP 122 := mm_okT (fun _ => rfl) ck_H_copy rfl
theorem ok_123 : mm_okP 123 := mm_okT (fun _ => rfl) ck_H_lay rfl
theorem ok_124 : mm_okP 124 := mm_okT (fun _ => rfl) ck_H_ask rfl
theorem ok_125 : mm_okP 125 := mm_okT (fun _ => rfl) ck_H_gaps rfl
theorem ok_126 : mm_okP 126 := mm_okT (fun _ => rfl) ck_H_parts rfl
theorem ok_127 : mm_okP 127 := mm_okT (fun _ => rfl) ck_H_tell rfl
theorem ok_128 : mm_okP 128 := mm_okT (fun _ => rfl) ck_H_check rfl
theorem ok_129 : mm_okP 129 := mm_okT (fun _ => rfl) ck_H_keep rfl
theorem ok_130 : mm_okP 130 := mm_okT (fun _ => rfl) ck_H_back rfl
theorem ok_131 : mm_okP 131 := mm_okT (fun _ => rfl) ck_H_count rfl
theorem ok_132 : mm_okP 132 := mm_okT (fun _ => rfl) ck_H_within rfl
theorem ok_133 : mm_okP 133 := mm_okT (fun _ => rfl) ck_H_areTwoCairns rfl
theorem ok_134 : mm_okP 134 := mm_okT (fun _ => rfl) ck_H_isStretch rfl
theorem ok_135 : mm_okP 135 := mm_okT (fun _ => rfl) ck_H_isCounter rfl
theorem ok_136 : mm_okP 136 := mm_okT (fun _ => rfl) ck_H_isHut rfl
theorem ok_137 : mm_okP 137 := mm_okT (fun _ => rfl) ck_H_bootsNow rfl
theorem ok_138 : mm_okP 138 := mm_okT (fun _ => rfl) ck_H_textThatCounts rfl
theorem ok_139 : mm_okP 139 := mm_okT (fun _ => rfl) ck_H_ruled rfl
theorem ok_140 : mm_okP 140 := mm_okT (fun _ => rfl) ck_H_withoutText rfl
theorem ok_141 : mm_okP 141 := mm_okT (fun _ => rfl) ck_H_giveNames rfl
theorem ok_142 : mm_okP 142 := mm_okT (fun _ => rfl) ck_H_fillNames rfl
theorem ok_143 : mm_okP 143 := mm_okT (fun _ => rfl) ck_H_washedAheadOf rfl
theorem ok_144 : mm_okP 144 := mm_okT (fun _ => rfl) ck_H_widthBehind rfl
theorem ok_145 : mm_okP 145 := mm_okT (fun _ => rfl) ck_H_offerAll rfl
theorem ok_146 : mm_okP 146 := mm_okT (fun _ => rfl) ck_M_init rfl
theorem ok_147 : mm_okP 147 := mm_okT (fun _ => rfl) ck_M_in rfl
theorem ok_148 : mm_okP 148 := mm_okT (fun _ => rfl) ck_M_lesser rfl
theorem ok_149 : mm_okP 149 := mm_okT (fun _ => rfl) ck_M_greater rfl
theorem ok_150 : mm_okP 150 := mm_okT (fun _ => rfl) ck_M_copyAll rfl
theorem ok_151 : mm_okP 151 := mm_okT (fun _ => rfl) ck_M_isPath rfl
theorem ok_152 : mm_okP 152 := mm_okT (fun _ => rfl) ck_M_of9 rfl
theorem ok_153 : mm_okP 153 := mm_okT (fun _ => rfl) ck_M_isUnder rfl
theorem ok_154 : mm_okP 154 := mm_okT (fun _ => rfl) ck_M_effortBy rfl
theorem ok_155 : mm_okP 155 := mm_okT (fun _ => rfl) ck_M_wearBy rfl
theorem ok_156 : mm_okP 156 := mm_okT (fun _ => rfl) ck_M_holdsBy rfl
theorem ok_157 : mm_okP 157 := mm_okT (fun _ => rfl) ck_M_effortOf rfl
theorem ok_158 : mm_okP 158 := mm_okT (fun _ => rfl) ck_M_widerBy rfl
theorem ok_159 : mm_okP 159 := mm_okT (fun _ => rfl) ck_M_holdsOf rfl
theorem ok_160 : mm_okP 160 := mm_okT (fun _ => rfl) ck_M_stretch rfl
theorem ok_161 : mm_okP 161 := mm_okT (fun _ => rfl) ck_M_rainIn rfl
theorem ok_162 : mm_okP 162 := mm_okT (fun _ => rfl) ck_M_told rfl
theorem ok_163 : mm_okP 163 := mm_okT (fun _ => rfl) ck_M_as rfl
theorem ok_164 : mm_okP 164 := mm_okT (fun _ => rfl) ck_M_set rfl
theorem ok_165 : mm_okP 165 := mm_okT (fun _ => rfl) ck_M_trip rfl
theorem ok_166 : mm_okP 166 := mm_okT (fun _ => rfl) ck_M_boots rfl
theorem ok_167 : mm_okP 167 := mm_okT (fun _ => rfl) ck_M_isOpen rfl
theorem ok_168 : mm_okP 168 := mm_okT (fun _ => rfl) ck_M_reaches rfl
theorem ok_169 : mm_okP 169 := mm_okT (fun _ => rfl) ck_M_findWay rfl
theorem ok_170 : mm_okP 170 := mm_okT (fun _ => rfl) ck_M_isNext rfl
theorem ok_171 : mm_okP 171 := mm_okT (fun _ => rfl) ck_M_way rfl
theorem ok_172 : mm_okP 172 := mm_okT (fun _ => rfl) ck_M_findBoots rfl
theorem ok_173 : mm_okP 173 := mm_okT (fun _ => rfl) ck_M_without rfl
theorem ok_174 : mm_okP 174 := mm_okT (fun _ => rfl) ck_M_rain rfl
theorem ok_175 : mm_okP 175 := mm_okT (fun _ => rfl) ck_M_mended rfl
theorem ok_176 : mm_okP 176 := mm_okT (fun _ => rfl) ck_M_aYear rfl
theorem ok_177 : mm_okP 177 := mm_okT (fun _ => rfl) ck_M_run rfl
theorem ok_178 : mm_okP 178 := mm_okT (fun _ => rfl) ck_M_widths rfl
theorem ok_179 : mm_okP 179 := mm_okT (fun _ => rfl) ck_M_lost rfl
theorem ok_180 : mm_okP 180 := mm_okT (fun _ => rfl) ck_M_feed rfl
theorem ok_181 : mm_okP 181 := mm_okT (fun _ => rfl) ck_M_trim rfl
theorem ok_182 : mm_okP 182 := mm_okT (fun _ => rfl) ck_M_isLetter rfl
theorem ok_183 : mm_okP 183 := mm_okT (fun _ => rfl) ck_M_isFigure rfl
theorem ok_184 : mm_okP 184 := mm_okT (fun _ => rfl) ck_M_go rfl
theorem ok_185 : mm_okP 185 := mm_okT (fun _ => rfl) ck_M_takesKey rfl
theorem ok_186 : mm_okP 186 := mm_okT (fun _ => rfl) ck_M_nameOf rfl
theorem ok_187 : mm_okP 187 := mm_okT (fun _ => rfl) ck_M_rank rfl
theorem ok_188 : mm_okP 188 := mm_okT (fun _ => rfl) ck_M_settle rfl
theorem ok_189 : mm_okP 189 := mm_okT (fun _ => rfl) ck_M_signHere rfl
theorem ok_190 : mm_okP 190 := mm_okT (fun _ => rfl) ck_M_takesPart rfl
theorem ok_191 : mm_okP 191 := mm_okT (fun _ => rfl) ck_M_takesE rfl
theorem ok_192 : mm_okP 192 := mm_okT (fun _ => rfl) ck_M_notsOpen rfl
theorem ok_193 : mm_okP 193 := mm_okT (fun _ => rfl) ck_M_text rfl
theorem ok_194 : mm_okP 194 := mm_okT (fun _ => rfl) ck_M_of rfl
theorem ok_195 : mm_okP 195 := mm_okT (fun _ => rfl) ck_M_counts rfl
theorem ok_196 : mm_okP 196 := mm_okT (fun _ => rfl) ck_M_why rfl
theorem ok_197 : mm_okP 197 := mm_okT (fun _ => rfl) ck_M_two rfl
theorem ok_198 : mm_okP 198 := mm_okT (fun _ => rfl) ck_M_worksOut rfl
theorem ok_199 : mm_okP 199 := mm_okT (fun _ => rfl) ck_M_meetAt rfl
theorem ok_200 : mm_okP 200 := mm_okT (fun _ => rfl) ck_M_ruled rfl
theorem ok_201 : mm_okP 201 := mm_okT (fun _ => rfl) ck_M_rule rfl
theorem ok_202 : mm_okP 202 := mm_okT (fun _ => rfl) ck_M_closing rfl
theorem ok_203 : mm_okP 203 := mm_okT (fun _ => rfl) ck_M_washed rfl
theorem ok_204 : mm_okP 204 := mm_okT (fun _ => rfl) ck_M_isWaiting rfl
theorem ok_205 : mm_okP 205 := mm_okT (fun _ => rfl) ck_M_mend rfl
theorem ok_206 : mm_okP 206 := mm_okT (fun _ => rfl) ck_M_mendTold rfl
theorem ok_207 : mm_okP 207 := mm_okT (fun _ => rfl) ck_M_widthBehind rfl
theorem ok_208 : mm_okP 208 := mm_okT (fun _ => rfl) ck_M_worthOf rfl
theorem ok_209 : mm_okP 209 := mm_okT (fun _ => rfl) ck_M_worth rfl
theorem ok_210 : mm_okP 210 := mm_okT (fun _ => rfl) ck_M_choose rfl
theorem ok_211 : mm_okP 211 := mm_okT (fun _ => rfl) ck_M_findChoice rfl
theorem ok_212 : mm_okP 212 := mm_okT (fun _ => rfl) ck_M_choice rfl
theorem ok_213 : mm_okP 213 := mm_okT (fun _ => rfl) ck_M_clear rfl
theorem ok_214 : mm_okP 214 := mm_okT (fun _ => rfl) ck_M_donor rfl
theorem ok_215 : mm_okP 215 := mm_okT (fun _ => rfl) ck_M_load rfl
theorem ok_216 : mm_okP 216 := mm_okT (fun _ => rfl) ck_M_carries rfl
theorem ok_217 : mm_okP 217 := mm_okT (fun _ => rfl) ck_M_flight rfl
theorem ok_218 : mm_okP 218 := mm_okT (fun _ => rfl) ck_M_person rfl
theorem ok_219 : mm_okP 219 := mm_okT (fun _ => rfl) ck_M_job rfl
theorem ok_220 : mm_okP 220 := mm_okT (fun _ => rfl) ck_M_beds rfl
theorem ok_221 : mm_okP 221 := mm_okT (fun _ => rfl) ck_M_workers rfl
theorem ok_222 : mm_okP 222 := mm_okT (fun _ => rfl) ck_M_tries rfl
theorem ok_223 : mm_okP 223 := mm_okT (fun _ => rfl) ck_M_findRoster rfl
theorem ok_224 : mm_okP 224 := mm_okT (fun _ => rfl) ck_M_roster rfl
theorem ok_225 : mm_okP 225 := mm_okT (fun _ => rfl) ck_M_isCounter rfl
theorem ok_226 : mm_okP 226 := mm_okT (fun _ => rfl) ck_M_counter rfl
theorem ok_227 : mm_okP 227 := mm_okT (fun _ => rfl) ck_M_note rfl
theorem ok_228 : mm_okP 228 := mm_okT (fun _ => rfl) ck_M_nearest rfl
theorem ok_229 : mm_okP 229 := mm_okT (fun _ => rfl) ck_M_edge rfl
theorem ok_230 : mm_okP 230 := mm_okT (fun _ => rfl) ck_M_span rfl
theorem ok_231 : mm_okP 231 := mm_okT (fun _ => rfl) ck_M_sum rfl
theorem ok_232 : mm_okP 232 := mm_okT (fun _ => rfl) ck_M_copy rfl
theorem ok_233 : mm_okP 233 := mm_okT (fun _ => rfl) ck_M_isHut rfl
theorem ok_234 : mm_okP 234 := mm_okT (fun _ => rfl) ck_M_lay rfl
theorem ok_235 : mm_okP 235 := mm_okT (fun _ => rfl) ck_M_whyNot rfl
theorem ok_236 : mm_okP 236 := mm_okT (fun _ => rfl) ck_M_ask rfl
theorem ok_237 : mm_okP 237 := mm_okT (fun _ => rfl) ck_M_gaps rfl
theorem ok_238 : mm_okP 238 := mm_okT (fun _ => rfl) ck_M_parts rfl
theorem ok_239 : mm_okP 239 := mm_okT (fun _ => rfl) ck_M_tell rfl
theorem ok_240 : mm_okP 240 := mm_okT (fun _ => rfl) ck_M_check rfl
theorem ok_241 : mm_okP 241 := mm_okT (fun _ => rfl) ck_M_keep rfl
theorem ok_242 : mm_okP 242 := mm_okT (fun _ => rfl) ck_M_back rfl
theorem ok_243 : mm_okP 243 := mm_okT (fun _ => rfl) ck_M_pathsShut rfl
theorem ok_244 : mm_okP 244 := mm_okT (fun _ => rfl) ck_M_mendsWaiting rfl
theorem ok_245 : mm_okP 245 := mm_okT (fun _ => rfl) ck_M_count rfl
theorem ok_246 : mm_okP 246 := mm_okT (fun _ => rfl) ck_L_law rfl
theorem okg_0 : ∀ M, 0 ≤ M → M < 41 → mm_okP M := mm_spl (m := 20) (mm_spl (m := 10) (mm_spl (m := 5) (mm_spl (m := 2) (mm_spl (m := 1) (mm_lf rfl ok_0) (mm_lf rfl ok_1)) (mm_spl (m := 3) (mm_lf rfl ok_2) (mm_spl (m := 4) (mm_lf rfl ok_3) (mm_lf rfl ok_4)))) (mm_spl (m := 7) (mm_spl (m := 6) (mm_lf rfl ok_5) (mm_lf rfl ok_6)) (mm_spl (m := 8) (mm_lf rfl ok_7) (mm_spl (m := 9) (mm_lf rfl ok_8) (mm_lf rfl ok_9))))) (mm_spl (m := 15) (mm_spl (m := 12) (mm_spl (m := 11) (mm_lf rfl ok_10) (mm_lf rfl ok_11)) (mm_spl (m := 13) (mm_lf rfl ok_12) (mm_spl (m := 14) (mm_lf rfl ok_13) (mm_lf rfl ok_14)))) (mm_spl (m := 17) (mm_spl (m := 16) (mm_lf rfl ok_15) (mm_lf rfl ok_16)) (mm_spl (m := 18) (mm_lf rfl ok_17) (mm_spl (m := 19) (mm_lf rfl ok_18) (mm_lf rfl ok_19)))))) (mm_spl (m := 30) (mm_spl (m := 25) (mm_spl (m := 22) (mm_spl (m := 21) (mm_lf rfl ok_20) (mm_lf rfl ok_21)) (mm_spl (m := 23) (mm_lf rfl ok_22) (mm_spl (m := 24) (mm_lf rfl ok_23) (mm_lf rfl ok_24)))) (mm_spl (m := 27) (mm_spl (m := 26) (mm_lf rfl ok_25) (mm_lf rfl ok_26)) (mm_spl (m := 28) (mm_lf rfl ok_27) (mm_spl (m := 29) (mm_lf rfl ok_28) (mm_lf rfl ok_29))))) (mm_spl (m := 35) (mm_spl (m := 32) (mm_spl (m := 31) (mm_lf rfl ok_30) (mm_lf rfl ok_31)) (mm_spl (m := 33) (mm_lf rfl ok_32) (mm_spl (m := 34) (mm_lf rfl ok_33) (mm_lf rfl ok_34)))) (mm_spl (m := 38) (mm_spl (m := 36) (mm_lf rfl ok_35) (mm_spl (m := 37) (mm_lf rfl ok_36) (mm_lf rfl ok_37))) (mm_spl (m := 39) (mm_lf rfl ok_38) (mm_spl (m := 40) (mm_lf rfl ok_39) (mm_lf rfl ok_40))))))
theorem okg_41 : ∀ M, 41 ≤ M → M < 82 → mm_okP M := mm_spl (m := 61) (mm_spl (m := 51) (mm_spl (m := 46) (mm_spl (m := 43) (mm_spl (m := 42) (mm_lf rfl ok_41) (mm_lf rfl ok_42)) (mm_spl (m := 44) (mm_lf rfl ok_43) (mm_spl (m := 45) (mm_lf rfl ok_44) (mm_lf rfl ok_45)))) (mm_spl (m := 48) (mm_spl (m := 47) (mm_lf rfl ok_46) (mm_lf rfl ok_47)) (mm_spl (m := 49) (mm_lf rfl ok_48) (mm_spl (m := 50) (mm_lf rfl ok_49) (mm_lf rfl ok_50))))) (mm_spl (m := 56) (mm_spl (m := 53) (mm_spl (m := 52) (mm_lf rfl ok_51) (mm_lf rfl ok_52)) (mm_spl (m := 54) (mm_lf rfl ok_53) (mm_spl (m := 55) (mm_lf rfl ok_54) (mm_lf rfl ok_55)))) (mm_spl (m := 58) (mm_spl (m := 57) (mm_lf rfl ok_56) (mm_lf rfl ok_57)) (mm_spl (m := 59) (mm_lf rfl ok_58) (mm_spl (m := 60) (mm_lf rfl ok_59) (mm_lf rfl ok_60)))))) (mm_spl (m := 71) (mm_spl (m := 66) (mm_spl (m := 63) (mm_spl (m := 62) (mm_lf rfl ok_61) (mm_lf rfl ok_62)) (mm_spl (m := 64) (mm_lf rfl ok_63) (mm_spl (m := 65) (mm_lf rfl ok_64) (mm_lf rfl ok_65)))) (mm_spl (m := 68) (mm_spl (m := 67) (mm_lf rfl ok_66) (mm_lf rfl ok_67)) (mm_spl (m := 69) (mm_lf rfl ok_68) (mm_spl (m := 70) (mm_lf rfl ok_69) (mm_lf rfl ok_70))))) (mm_spl (m := 76) (mm_spl (m := 73) (mm_spl (m := 72) (mm_lf rfl ok_71) (mm_lf rfl ok_72)) (mm_spl (m := 74) (mm_lf rfl ok_73) (mm_spl (m := 75) (mm_lf rfl ok_74) (mm_lf rfl ok_75)))) (mm_spl (m := 79) (mm_spl (m := 77) (mm_lf rfl ok_76) (mm_spl (m := 78) (mm_lf rfl ok_77) (mm_lf rfl ok_78))) (mm_spl (m := 80) (mm_lf rfl ok_79) (mm_spl (m := 81) (mm_lf rfl ok_80) (mm_lf rfl ok_81))))))
theorem okg_82 : ∀ M, 82 ≤ M → M < 123 → mm_okP M := mm_spl (m := 102) (mm_spl (m := 92) (mm_spl (m := 87) (mm_spl (m := 84) (mm_spl (m := 83) (mm_lf rfl ok_82) (mm_lf rfl ok_83)) (mm_spl (m := 85) (mm_lf rfl ok_84) (mm_spl (m := 86) (mm_lf rfl ok_85) (mm_lf rfl ok_86)))) (mm_spl (m := 89) (mm_spl (m := 88) (mm_lf rfl ok_87) (mm_lf rfl ok_88)) (mm_spl (m := 90) (mm_lf rfl ok_89) (mm_spl (m := 91) (mm_lf rfl ok_90) (mm_lf rfl ok_91))))) (mm_spl (m := 97) (mm_spl (m := 94) (mm_spl (m := 93) (mm_lf rfl ok_92) (mm_lf rfl ok_93)) (mm_spl (m := 95) (mm_lf rfl ok_94) (mm_spl (m := 96) (mm_lf rfl ok_95) (mm_lf rfl ok_96)))) (mm_spl (m := 99) (mm_spl (m := 98) (mm_lf rfl ok_97) (mm_lf rfl ok_98)) (mm_spl (m := 100) (mm_lf rfl ok_99) (mm_spl (m := 101) (mm_lf rfl ok_100) (mm_lf rfl ok_101)))))) (mm_spl (m := 112) (mm_spl (m := 107) (mm_spl (m := 104) (mm_spl (m := 103) (mm_lf rfl ok_102) (mm_lf rfl ok_103)) (mm_spl (m := 105) (mm_lf rfl ok_104) (mm_spl (m := 106) (mm_lf rfl ok_105) (mm_lf rfl ok_106)))) (mm_spl (m := 109) (mm_spl (m := 108) (mm_lf rfl ok_107) (mm_lf rfl ok_108)) (mm_spl (m := 110) (mm_lf rfl ok_109) (mm_spl (m := 111) (mm_lf rfl ok_110) (mm_lf rfl ok_111))))) (mm_spl (m := 117) (mm_spl (m := 114) (mm_spl (m := 113) (mm_lf rfl ok_112) (mm_lf rfl ok_113)) (mm_spl (m := 115) (mm_lf rfl ok_114) (mm_spl (m := 116) (mm_lf rfl ok_115) (mm_lf rfl ok_116)))) (mm_spl (m := 120) (mm_spl (m := 118) (mm_lf rfl ok_117) (mm_spl (m := 119) (mm_lf rfl ok_118) (mm_lf rfl ok_119))) (mm_spl (m := 121) (mm_lf rfl ok_120) (mm_spl (m := 122) (mm_lf rfl ok_121) (mm_lf rfl ok_122))))))
theorem okg_123 : ∀ M, 123 ≤ M → M < 164 → mm_okP M := mm_spl (m := 143) (mm_spl (m := 133) (mm_spl (m := 128) (mm_spl (m := 125) (mm_spl (m := 124) (mm_lf rfl ok_123) (mm_lf rfl ok_124)) (mm_spl (m := 126) (mm_lf rfl ok_125) (mm_spl (m := 127) (mm_lf rfl ok_126) (mm_lf rfl ok_127)))) (mm_spl (m := 130) (mm_spl (m := 129) (mm_lf rfl ok_128) (mm_lf rfl ok_129)) (mm_spl (m := 131) (mm_lf rfl ok_130) (mm_spl (m := 132) (mm_lf rfl ok_131) (mm_lf rfl ok_132))))) (mm_spl (m := 138) (mm_spl (m := 135) (mm_spl (m := 134) (mm_lf rfl ok_133) (mm_lf rfl ok_134)) (mm_spl (m := 136) (mm_lf rfl ok_135) (mm_spl (m := 137) (mm_lf rfl ok_136) (mm_lf rfl ok_137)))) (mm_spl (m := 140) (mm_spl (m := 139) (mm_lf rfl ok_138) (mm_lf rfl ok_139)) (mm_spl (m := 141) (mm_lf rfl ok_140) (mm_spl (m := 142) (mm_lf rfl ok_141) (mm_lf rfl ok_142)))))) (mm_spl (m := 153) (mm_spl (m := 148) (mm_spl (m := 145) (mm_spl (m := 144) (mm_lf rfl ok_143) (mm_lf rfl ok_144)) (mm_spl (m := 146) (mm_lf rfl ok_145) (mm_spl (m := 147) (mm_lf rfl ok_146) (mm_lf rfl ok_147)))) (mm_spl (m := 150) (mm_spl (m := 149) (mm_lf rfl ok_148) (mm_lf rfl ok_149)) (mm_spl (m := 151) (mm_lf rfl ok_150) (mm_spl (m := 152) (mm_lf rfl ok_151) (mm_lf rfl ok_152))))) (mm_spl (m := 158) (mm_spl (m := 155) (mm_spl (m := 154) (mm_lf rfl ok_153) (mm_lf rfl ok_154)) (mm_spl (m := 156) (mm_lf rfl ok_155) (mm_spl (m := 157) (mm_lf rfl ok_156) (mm_lf rfl ok_157)))) (mm_spl (m := 161) (mm_spl (m := 159) (mm_lf rfl ok_158) (mm_spl (m := 160) (mm_lf rfl ok_159) (mm_lf rfl ok_160))) (mm_spl (m := 162) (mm_lf rfl ok_161) (mm_spl (m := 163) (mm_lf rfl ok_162) (mm_lf rfl ok_163))))))
theorem okg_164 : ∀ M, 164 ≤ M → M < 205 → mm_okP M := mm_spl (m := 184) (mm_spl (m := 174) (mm_spl (m := 169) (mm_spl (m := 166) (mm_spl (m := 165) (mm_lf rfl ok_164) (mm_lf rfl ok_165)) (mm_spl (m := 167) (mm_lf rfl ok_166) (mm_spl (m := 168) (mm_lf rfl ok_167) (mm_lf rfl ok_168)))) (mm_spl (m := 171) (mm_spl (m := 170) (mm_lf rfl ok_169) (mm_lf rfl ok_170)) (mm_spl (m := 172) (mm_lf rfl ok_171) (mm_spl (m := 173) (mm_lf rfl ok_172) (mm_lf rfl ok_173))))) (mm_spl (m := 179) (mm_spl (m := 176) (mm_spl (m := 175) (mm_lf rfl ok_174) (mm_lf rfl ok_175)) (mm_spl (m := 177) (mm_lf rfl ok_176) (mm_spl (m := 178) (mm_lf rfl ok_177) (mm_lf rfl ok_178)))) (mm_spl (m := 181) (mm_spl (m := 180) (mm_lf rfl ok_179) (mm_lf rfl ok_180)) (mm_spl (m := 182) (mm_lf rfl ok_181) (mm_spl (m := 183) (mm_lf rfl ok_182) (mm_lf rfl ok_183)))))) (mm_spl (m := 194) (mm_spl (m := 189) (mm_spl (m := 186) (mm_spl (m := 185) (mm_lf rfl ok_184) (mm_lf rfl ok_185)) (mm_spl (m := 187) (mm_lf rfl ok_186) (mm_spl (m := 188) (mm_lf rfl ok_187) (mm_lf rfl ok_188)))) (mm_spl (m := 191) (mm_spl (m := 190) (mm_lf rfl ok_189) (mm_lf rfl ok_190)) (mm_spl (m := 192) (mm_lf rfl ok_191) (mm_spl (m := 193) (mm_lf rfl ok_192) (mm_lf rfl ok_193))))) (mm_spl (m := 199) (mm_spl (m := 196) (mm_spl (m := 195) (mm_lf rfl ok_194) (mm_lf rfl ok_195)) (mm_spl (m := 197) (mm_lf rfl ok_196) (mm_spl (m := 198) (mm_lf rfl ok_197) (mm_lf rfl ok_198)))) (mm_spl (m := 202) (mm_spl (m := 200) (mm_lf rfl ok_199) (mm_spl (m := 201) (mm_lf rfl ok_200) (mm_lf rfl ok_201))) (mm_spl (m := 203) (mm_lf rfl ok_202) (mm_spl (m := 204) (mm_lf rfl ok_203) (mm_lf rfl ok_204))))))
theorem okg_205 : ∀ M, 205 ≤ M → M < 246 → mm_okP M := mm_spl (m := 225) (mm_spl (m := 215) (mm_spl (m := 210) (mm_spl (m := 207) (mm_spl (m := 206) (mm_lf rfl ok_205) (mm_lf rfl ok_206)) (mm_spl (m := 208) (mm_lf rfl ok_207) (mm_spl (m := 209) (mm_lf rfl ok_208) (mm_lf rfl ok_209)))) (mm_spl (m := 212) (mm_spl (m := 211) (mm_lf rfl ok_210) (mm_lf rfl ok_211)) (mm_spl (m := 213) (mm_lf rfl ok_212) (mm_spl (m := 214) (mm_lf rfl ok_213) (mm_lf rfl ok_214))))) (mm_spl (m := 220) (mm_spl (m := 217) (mm_spl (m := 216) (mm_lf rfl ok_215) (mm_lf rfl ok_216)) (mm_spl (m := 218) (mm_lf rfl ok_217) (mm_spl (m := 219) (mm_lf rfl ok_218) (mm_lf rfl ok_219)))) (mm_spl (m := 222) (mm_spl (m := 221) (mm_lf rfl ok_220) (mm_lf rfl ok_221)) (mm_spl (m := 223) (mm_lf rfl ok_222) (mm_spl (m := 224) (mm_lf rfl ok_223) (mm_lf rfl ok_224)))))) (mm_spl (m := 235) (mm_spl (m := 230) (mm_spl (m := 227) (mm_spl (m := 226) (mm_lf rfl ok_225) (mm_lf rfl ok_226)) (mm_spl (m := 228) (mm_lf rfl ok_227) (mm_spl (m := 229) (mm_lf rfl ok_228) (mm_lf rfl ok_229)))) (mm_spl (m := 232) (mm_spl (m := 231) (mm_lf rfl ok_230) (mm_lf rfl ok_231)) (mm_spl (m := 233) (mm_lf rfl ok_232) (mm_spl (m := 234) (mm_lf rfl ok_233) (mm_lf rfl ok_234))))) (mm_spl (m := 240) (mm_spl (m := 237) (mm_spl (m := 236) (mm_lf rfl ok_235) (mm_lf rfl ok_236)) (mm_spl (m := 238) (mm_lf rfl ok_237) (mm_spl (m := 239) (mm_lf rfl ok_238) (mm_lf rfl ok_239)))) (mm_spl (m := 243) (mm_spl (m := 241) (mm_lf rfl ok_240) (mm_spl (m := 242) (mm_lf rfl ok_241) (mm_lf rfl ok_242))) (mm_spl (m := 244) (mm_lf rfl ok_243) (mm_spl (m := 245) (mm_lf rfl ok_244) (mm_lf rfl ok_245))))))
theorem mm_chk : mm_Chk := fun M k hM => (mm_spl (m := 41) okg_0 (mm_spl (m := 82) okg_41 (mm_spl (m := 123) okg_82 (mm_spl (m := 164) okg_123 (mm_spl (m := 205) okg_164 (okg_205))))) : ∀ M, 0 ≤ M → M < 246 → mm_okP M) M (Nat.zero_le M) hM k
