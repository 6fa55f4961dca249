def mL37 : List (Option Cond) := [some (Cond.methodLink RL 13 yX11_feed), some (Cond.instanceMethod yX11_feed), some (Cond.selects RX11 yX11_feed yX11_feed), some (Cond.code yX11_feed cX11_feed 6 (some .int)), some (Cond.methodLink RL 18 yX11_end), some (Cond.instanceMethod yX11_end), some (Cond.selects RX11 yX11_end yX11_end), some (Cond.code yX11_end cX11_end 2 (some .int)), some (Cond.methodLink RL 23 yX11_hills), some (Cond.instanceMethod yX11_hills), some (Cond.selects RX11 yX11_hills yX11_hills), some (Cond.code yX11_hills cX11_hills 3 (some .int)), some (Cond.methodLink RL 28 yX11_fault), some (Cond.instanceMethod yX11_fault), some (Cond.selects RX11 yX11_fault yX11_fault), some (Cond.code yX11_fault cX11_fault 2 (some .int)), some (Cond.methodLink RL 32 yX11_cliff), some (Cond.instanceMethod yX11_cliff), some (Cond.selects RX11 yX11_cliff yX11_cliff), some (Cond.code yX11_cliff cX11_cliff 3 (some .int)), some (Cond.methodLink RL 37 yX11_man), some (Cond.instanceMethod yX11_man), some (Cond.selects RX11 yX11_man yX11_man), some (Cond.code yX11_man cX11_man 3 (some .int)), some (Cond.methodLink RL 41 yX11_leads), some (Cond.instanceMethod yX11_leads), some (Cond.selects RX11 yX11_leads yX11_leads), some (Cond.code yX11_leads cX11_leads 3 (some .int)), some (Cond.methodLink RL 45 yX11_say), some (Cond.instanceMethod yX11_say), some (Cond.selects RX11 yX11_say yX11_say), some (Cond.code yX11_say cX11_say 3 (some .int)), some (Cond.methodLink RL 49 yX11_unsay), some (Cond.instanceMethod yX11_unsay), some (Cond.selects RX11 yX11_unsay yX11_unsay), some (Cond.code yX11_unsay cX11_unsay 2 (some .int)), some (Cond.methodLink RL 53 yX11_said), some (Cond.instanceMethod yX11_said), some (Cond.selects RX11 yX11_said yX11_said), some (Cond.code yX11_said cX11_said 3 (some .int)), some (Cond.methodLink RL 57 yX11_call), some (Cond.instanceMethod yX11_call), some (Cond.selects RX11 yX11_call yX11_call), some (Cond.code yX11_call cX11_call 3 (some .int)), some (Cond.methodLink RL 61 yX11_noon), some (Cond.instanceMethod yX11_noon), some (Cond.selects RX11 yX11_noon yX11_noon), some (Cond.code yX11_noon cX11_noon 1 (some .int)), some (Cond.methodLink RL 65 yX11_sweep), some (Cond.instanceMethod yX11_sweep), some (Cond.selects RX11 yX11_sweep yX11_sweep), some (Cond.code yX11_sweep cX11_sweep 2 (some .int)), some (Cond.methodLink RL 69 yX11_undo), some (Cond.instanceMethod yX11_undo), some (Cond.selects RX11 yX11_undo yX11_undo), some (Cond.code yX11_undo cX11_undo 1 (some .boolean)), some (Cond.methodLink RL 74 yX11_redo), some (Cond.instanceMethod yX11_redo), some (Cond.selects RX11 yX11_redo yX11_redo), some (Cond.code yX11_redo cX11_redo 1 (some .boolean)), some (Cond.methodLink RL 78 yX11_echo), some (Cond.instanceMethod yX11_echo), some (Cond.selects RX11 yX11_echo yX11_echo), some (Cond.code yX11_echo cX11_echo 4 (some .int)), some (Cond.methodLink RL 82 yX11_answers), some (Cond.instanceMethod yX11_answers), some (Cond.selects RX11 yX11_answers yX11_answers), some (Cond.code yX11_answers cX11_answers 6 (some .int)), some (Cond.methodLink RL 86 yX11_binds), some (Cond.instanceMethod yX11_binds), some (Cond.selects RX11 yX11_binds yX11_binds), some (Cond.code yX11_binds cX11_binds 2 (some .int)), some (Cond.methodLink RL 90 yX11_pardon), some (Cond.instanceMethod yX11_pardon), some (Cond.selects RX11 yX11_pardon yX11_pardon), some (Cond.code yX11_pardon cX11_pardon 3 (some .int)), some (Cond.methodLink RL 94 yX11_pardons), some (Cond.instanceMethod yX11_pardons), some (Cond.selects RX11 yX11_pardons yX11_pardons), some (Cond.code yX11_pardons cX11_pardons 3 (some .int)), some (Cond.methodLink RL 98 yX11_ahead), some (Cond.instanceMethod yX11_ahead), some (Cond.selects RX11 yX11_ahead yX11_ahead), some (Cond.code yX11_ahead cX11_ahead 5 (some .int)), some (Cond.methodLink RL 103 yX11_yeas), some (Cond.instanceMethod yX11_yeas), some (Cond.selects RX11 yX11_yeas yX11_yeas), some (Cond.code yX11_yeas cX11_yeas 7 (some .int)), some (Cond.methodLink RL 107 yX11_clears), some (Cond.instanceMethod yX11_clears), some (Cond.selects RX11 yX11_clears yX11_clears), some (Cond.code yX11_clears cX11_clears 6 (some .int)), some (Cond.methodLink RL 111 yX11_rhyme), some (Cond.instanceMethod yX11_rhyme), some (Cond.selects RX11 yX11_rhyme yX11_rhyme), some (Cond.code yX11_rhyme cX11_rhyme 3 (some .int)), some (Cond.methodLink RL 115 yX11_joined), some (Cond.instanceMethod yX11_joined), some (Cond.selects RX11 yX11_joined yX11_joined), some (Cond.code yX11_joined cX11_joined 3 (some .int)), some (Cond.methodLink RL 119 yX11_luck), some (Cond.instanceMethod yX11_luck), some (Cond.selects RX11 yX11_luck yX11_luck), some (Cond.code yX11_luck cX11_luck 4 (some .int)), some (Cond.methodLink RL 123 yX11_winds), some (Cond.instanceMethod yX11_winds), some (Cond.selects RX11 yX11_winds yX11_winds), some (Cond.code yX11_winds cX11_winds 4 (some .int)), some (Cond.methodLink RL 127 yX11_more), some (Cond.instanceMethod yX11_more), some (Cond.selects RX11 yX11_more yX11_more), some (Cond.code yX11_more cX11_more 5 (some .int)), some (Cond.methodLink RL 131 yX11_way), some (Cond.instanceMethod yX11_way), some (Cond.selects RX11 yX11_way yX11_way), some (Cond.code yX11_way cX11_way 3 (some .int)), some (Cond.methodLink RL 135 yX11_lies), some (Cond.instanceMethod yX11_lies), some (Cond.selects RX11 yX11_lies yX11_lies), some (Cond.code yX11_lies cX11_lies 2 (some .int)), some (Cond.methodLink RL 139 yX11_sound), some (Cond.instanceMethod yX11_sound), some (Cond.selects RX11 yX11_sound yX11_sound), some (Cond.code yX11_sound cX11_sound 4 (some .int)), some (Cond.methodLink RL 143 yX11_untell), some (Cond.instanceMethod yX11_untell), some (Cond.selects RX11 yX11_untell yX11_untell), some (Cond.code yX11_untell cX11_untell 2 (some .boolean)), some (Cond.methodLink RL 148 yX11_later), some (Cond.instanceMethod yX11_later), some (Cond.selects RX11 yX11_later yX11_later), some (Cond.code yX11_later cX11_later 2 (some .int)), some (Cond.methodLink RL 152 yX11_stood), some (Cond.instanceMethod yX11_stood), some (Cond.selects RX11 yX11_stood yX11_stood), some (Cond.code yX11_stood cX11_stood 3 (some .int)), some (Cond.methodLink RL 156 yX11_ask), some (Cond.instanceMethod yX11_ask), some (Cond.selects RX11 yX11_ask yX11_ask), some (Cond.code yX11_ask cX11_ask 3 (some .int)), some (Cond.methodLink RL 160 yX11_image), some (Cond.instanceMethod yX11_image), some (Cond.selects RX11 yX11_image yX11_image), some (Cond.code yX11_image cX11_image 2 (some .int)), some (Cond.methodLink RL 164 yX11_back), some (Cond.instanceMethod yX11_back), some (Cond.selects RX11 yX11_back yX11_back), some (Cond.code yX11_back cX11_back 2 (some .int)), some (Cond.methodLink RL 168 yX11_about), some (Cond.instanceMethod yX11_about), some (Cond.selects RX11 yX11_about yX11_about), some (Cond.code yX11_about cX11_about 2 (some .int)), some (Cond.methodLink RL 17 yX12_feed), some (Cond.instanceMethod yX12_feed), some (Cond.selects RX12 yX12_feed yX12_feed), some (Cond.code yX12_feed cX12_feed 6 (some .int)), some (Cond.methodLink RL 22 yX12_end), some (Cond.instanceMethod yX12_end), some (Cond.selects RX12 yX12_end yX12_end), some (Cond.code yX12_end cX12_end 2 (some .int)), some (Cond.methodLink RL 27 yX12_hills), some (Cond.instanceMethod yX12_hills), some (Cond.selects RX12 yX12_hills yX12_hills), some (Cond.code yX12_hills cX12_hills 3 (some .int)), some (Cond.methodLink RL 31 yX12_fault), some (Cond.instanceMethod yX12_fault), some (Cond.selects RX12 yX12_fault yX12_fault), some (Cond.code yX12_fault cX12_fault 2 (some .int)), some (Cond.methodLink RL 36 yX12_cliff), some (Cond.instanceMethod yX12_cliff), some (Cond.selects RX12 yX12_cliff yX12_cliff), some (Cond.code yX12_cliff cX12_cliff 3 (some .int)), some (Cond.methodLink RL 40 yX12_man), some (Cond.instanceMethod yX12_man), some (Cond.selects RX12 yX12_man yX12_man), some (Cond.code yX12_man cX12_man 3 (some .int)), some (Cond.methodLink RL 44 yX12_leads), some (Cond.instanceMethod yX12_leads), some (Cond.selects RX12 yX12_leads yX12_leads), some (Cond.code yX12_leads cX12_leads 3 (some .int)), some (Cond.methodLink RL 48 yX12_say), some (Cond.instanceMethod yX12_say), some (Cond.selects RX12 yX12_say yX12_say), some (Cond.code yX12_say cX12_say 3 (some .int)), some (Cond.methodLink RL 52 yX12_unsay), some (Cond.instanceMethod yX12_unsay), some (Cond.selects RX12 yX12_unsay yX12_unsay), some (Cond.code yX12_unsay cX12_unsay 2 (some .int)), some (Cond.methodLink RL 56 yX12_said), some (Cond.instanceMethod yX12_said), some (Cond.selects RX12 yX12_said yX12_said), some (Cond.code yX12_said cX12_said 3 (some .int)), some (Cond.methodLink RL 60 yX12_call), some (Cond.instanceMethod yX12_call), some (Cond.selects RX12 yX12_call yX12_call), some (Cond.code yX12_call cX12_call 3 (some .int)), some (Cond.methodLink RL 64 yX12_noon), some (Cond.instanceMethod yX12_noon), some (Cond.selects RX12 yX12_noon yX12_noon), some (Cond.code yX12_noon cX12_noon 2 (some .int)), some (Cond.methodLink RL 68 yX12_sweep), some (Cond.instanceMethod yX12_sweep), some (Cond.selects RX12 yX12_sweep yX12_sweep), some (Cond.code yX12_sweep cX12_sweep 3 (some .int)), some (Cond.methodLink RL 73 yX12_undo), some (Cond.instanceMethod yX12_undo), some (Cond.selects RX12 yX12_undo yX12_undo), some (Cond.code yX12_undo cX12_undo 1 (some .boolean)), some (Cond.methodLink RL 77 yX12_redo), some (Cond.instanceMethod yX12_redo), some (Cond.selects RX12 yX12_redo yX12_redo), some (Cond.code yX12_redo cX12_redo 1 (some .boolean)), some (Cond.methodLink RL 81 yX12_echo), some (Cond.instanceMethod yX12_echo), some (Cond.selects RX12 yX12_echo yX12_echo), some (Cond.code yX12_echo cX12_echo 4 (some .int)), some (Cond.methodLink RL 85 yX12_answers), some (Cond.instanceMethod yX12_answers), some (Cond.selects RX12 yX12_answers yX12_answers), some (Cond.code yX12_answers cX12_answers 5 (some .int)), some (Cond.methodLink RL 89 yX12_binds), some (Cond.instanceMethod yX12_binds), some (Cond.selects RX12 yX12_binds yX12_binds), some (Cond.code yX12_binds cX12_binds 2 (some .int)), some (Cond.methodLink RL 93 yX12_pardon), some (Cond.instanceMethod yX12_pardon), some (Cond.selects RX12 yX12_pardon yX12_pardon), some (Cond.code yX12_pardon cX12_pardon 5 (some .int)), some (Cond.methodLink RL 97 yX12_pardons), some (Cond.instanceMethod yX12_pardons), some (Cond.selects RX12 yX12_pardons yX12_pardons), some (Cond.code yX12_pardons cX12_pardons 6 (some .int)), some (Cond.methodLink RL 102 yX12_ahead), some (Cond.instanceMethod yX12_ahead), some (Cond.selects RX12 yX12_ahead yX12_ahead), some (Cond.code yX12_ahead cX12_ahead 7 (some .int)), some (Cond.methodLink RL 106 yX12_yeas), some (Cond.instanceMethod yX12_yeas), some (Cond.selects RX12 yX12_yeas yX12_yeas), some (Cond.code yX12_yeas cX12_yeas 7 (some .int)), some (Cond.methodLink RL 110 yX12_clears), some (Cond.instanceMethod yX12_clears), some (Cond.selects RX12 yX12_clears yX12_clears), some (Cond.code yX12_clears cX12_clears 6 (some .int)), some (Cond.methodLink RL 114 yX12_rhyme), some (Cond.instanceMethod yX12_rhyme), some (Cond.selects RX12 yX12_rhyme yX12_rhyme), some (Cond.code yX12_rhyme cX12_rhyme 4 (some .int)), some (Cond.methodLink RL 118 yX12_joined), some (Cond.instanceMethod yX12_joined), some (Cond.selects RX12 yX12_joined yX12_joined), some (Cond.code yX12_joined cX12_joined 5 (some .int)), some (Cond.methodLink RL 122 yX12_luck), some (Cond.instanceMethod yX12_luck), some (Cond.selects RX12 yX12_luck yX12_luck), some (Cond.code yX12_luck cX12_luck 4 (some .int)), some (Cond.methodLink RL 126 yX12_winds), some (Cond.instanceMethod yX12_winds), some (Cond.selects RX12 yX12_winds yX12_winds), some (Cond.code yX12_winds cX12_winds 4 (some .int)), some (Cond.methodLink RL 130 yX12_more), some (Cond.instanceMethod yX12_more), some (Cond.selects RX12 yX12_more yX12_more), some (Cond.code yX12_more cX12_more 4 (some .int)), some (Cond.methodLink RL 134 yX12_way), some (Cond.instanceMethod yX12_way), some (Cond.selects RX12 yX12_way yX12_way), some (Cond.code yX12_way cX12_way 6 (some .int)), some (Cond.methodLink RL 138 yX12_lies), some (Cond.instanceMethod yX12_lies), some (Cond.selects RX12 yX12_lies yX12_lies), some (Cond.code yX12_lies cX12_lies 2 (some .int)), some (Cond.methodLink RL 142 yX12_sound), some (Cond.instanceMethod yX12_sound), some (Cond.selects RX12 yX12_sound yX12_sound), some (Cond.code yX12_sound cX12_sound 4 (some .int)), some (Cond.methodLink RL 147 yX12_untell), some (Cond.instanceMethod yX12_untell), some (Cond.selects RX12 yX12_untell yX12_untell), some (Cond.code yX12_untell cX12_untell 2 (some .boolean)), some (Cond.methodLink RL 151 yX12_later), some (Cond.instanceMethod yX12_later), some (Cond.selects RX12 yX12_later yX12_later), some (Cond.code yX12_later cX12_later 2 (some .int)), some (Cond.methodLink RL 155 yX12_stood), some (Cond.instanceMethod yX12_stood), some (Cond.selects RX12 yX12_stood yX12_stood), some (Cond.code yX12_stood cX12_stood 6 (some .int)), some (Cond.methodLink RL 159 yX12_ask), some (Cond.instanceMethod yX12_ask), some (Cond.selects RX12 yX12_ask yX12_ask), some (Cond.code yX12_ask cX12_ask 8 (some .int)), some (Cond.methodLink RL 163 yX12_image), some (Cond.instanceMethod yX12_image), some (Cond.selects RX12 yX12_image yX12_image), some (Cond.code yX12_image cX12_image 3 (some .int)), some (Cond.methodLink RL 167 yX12_back), some (Cond.instanceMethod yX12_back), some (Cond.selects RX12 yX12_back yX12_back), some (Cond.code yX12_back cX12_back 3 (some .int)), some (Cond.methodLink RL 171 yX12_about), some (Cond.instanceMethod yX12_about), some (Cond.selects RX12 yX12_about yX12_about), some (Cond.code yX12_about cX12_about 2 (some .int))]
set_option maxRecDepth 100000 in
theorem mP37 : pick [701, 1, 1, 1, 5, 1, 1, 1, 1, 1, 1, 1, 225, 1, 1, 1, 1, 1, 1, 1, 5, 1, 1, 1, 5, 1, 1, 1, 1, 1, 1, 1, 17, 1, 1, 1, 5, 1, 1, 1, 5, 1, 1, 1, 80, 1, 1, 1, 5, 1, 1, 1, 5, 1, 1, 1, 9, 1, 1, 1, 5, 1, 1, 1, 6, 1, 1, 1, 2, 1, 1, 1, 1, 1, 1, 1, 42, 1, 1, 1, 4, 1, 1, 1, 22, 1, 1, 1, 4, 1, 1, 1, 6, 1, 1, 1, 46, 1, 1, 1, 1, 1, 1, 1, 1, 1, 1, 1, 1, 1, 1, 1, 1, 1, 1, 1, 17, 1, 1, 1, 1, 1, 1, 1, 5, 1, 1, 1, 5, 1, 1, 1, 2, 1, 1, 1, 27, 1, 1, 1, 10, 1, 1, 1, 8, 1, 1, 1, 5, 1, 1, 1, 276, 1, 1, 1, 5, 1, 1, 1, 1, 1, 1, 1, 165, 1, 1, 1, 1, 1, 1, 1, 8, 1, 1, 1, 5, 1, 1, 1, 13, 1, 1, 1, 8, 1, 1, 1, 1, 1, 1, 1, 1, 1, 1, 1, 66, 1, 1, 1, 1, 1, 1, 1, 1, 1, 1, 1, 5, 1, 1, 1, 1, 1, 1, 1, 1, 1, 1, 1, 1, 1, 1, 1, 1, 1, 1, 1, 17, 1, 1, 1, 1, 1, 1, 1, 5, 1, 1, 1, 1, 1, 1, 1, 4, 1, 1, 1, 13, 1, 1, 1, 5, 1, 1, 1, 1, 1, 1, 1, 1, 1, 1, 1, 1, 1, 1, 1, 1, 1, 1, 1, 1, 1, 1, 1, 1, 1, 1, 1, 1, 1, 1, 1, 2, 1, 1, 1, 9, 1, 1, 1, 5, 1, 1, 1, 4, 1, 1, 1, 1, 1, 1, 1] lw_tbl = mL37 := rfl
set_option maxRecDepth 100000 in
theorem mG37 : mL37.all (fun o => o.all goodWord) = true := rfl
theorem m_701 : (Cond.methodLink RL 13 yX11_feed) ∈ gT := gp mP37 mG37 0 rfl
theorem m_702 : (Cond.instanceMethod yX11_feed) ∈ gT := gp mP37 mG37 1 rfl
theorem m_703 : (Cond.selects RX11 yX11_feed yX11_feed) ∈ gT := gp mP37 mG37 2 rfl
theorem m_704 : (Cond.code yX11_feed cX11_feed 6 (some .int)) ∈ gT := gp mP37 mG37 3 rfl
theorem m_709 : (Cond.methodLink RL 18 yX11_end) ∈ gT := gp mP37 mG37 4 rfl
theorem m_710 : (Cond.instanceMethod yX11_end) ∈ gT := gp mP37 mG37 5 rfl
theorem m_711 : (Cond.selects RX11 yX11_end yX11_end) ∈ gT := gp mP37 mG37 6 rfl
theorem m_712 : (Cond.code yX11_end cX11_end 2 (some .int)) ∈ gT := gp mP37 mG37 7 rfl
theorem m_713 : (Cond.methodLink RL 23 yX11_hills) ∈ gT := gp mP37 mG37 8 rfl
theorem m_714 : (Cond.instanceMethod yX11_hills) ∈ gT := gp mP37 mG37 9 rfl
theorem m_715 : (Cond.selects RX11 yX11_hills yX11_hills) ∈ gT := gp mP37 mG37 10 rfl
theorem m_716 : (Cond.code yX11_hills cX11_hills 3 (some .int)) ∈ gT := gp mP37 mG37 11 rfl
theorem m_941 : (Cond.methodLink RL 28 yX11_fault) ∈ gT := gp mP37 mG37 12 rfl
theorem m_942 : (Cond.instanceMethod yX11_fault) ∈ gT := gp mP37 mG37 13 rfl
theorem m_943 : (Cond.selects RX11 yX11_fault yX11_fault) ∈ gT := gp mP37 mG37 14 rfl
theorem m_944 : (Cond.code yX11_fault cX11_fault 2 (some .int)) ∈ gT := gp mP37 mG37 15 rfl
theorem m_945 : (Cond.methodLink RL 32 yX11_cliff) ∈ gT := gp mP37 mG37 16 rfl
theorem m_946 : (Cond.instanceMethod yX11_cliff) ∈ gT := gp mP37 mG37 17 rfl
theorem m_947 : (Cond.selects RX11 yX11_cliff yX11_cliff) ∈ gT := gp mP37 mG37 18 rfl
theorem m_948 : (Cond.code yX11_cliff cX11_cliff 3 (some .int)) ∈ gT := gp mP37 mG37 19 rfl
theorem m_953 : (Cond.methodLink RL 37 yX11_man) ∈ gT := gp mP37 mG37 20 rfl
theorem m_954 : (Cond.instanceMethod yX11_man) ∈ gT := gp mP37 mG37 21 rfl
theorem m_955 : (Cond.selects RX11 yX11_man yX11_man) ∈ gT := gp mP37 mG37 22 rfl
theorem m_956 : (Cond.code yX11_man cX11_man 3 (some .int)) ∈ gT := gp mP37 mG37 23 rfl
theorem m_961 : (Cond.methodLink RL 41 yX11_leads) ∈ gT := gp mP37 mG37 24 rfl
theorem m_962 : (Cond.instanceMethod yX11_leads) ∈ gT := gp mP37 mG37 25 rfl
theorem m_963 : (Cond.selects RX11 yX11_leads yX11_leads) ∈ gT := gp mP37 mG37 26 rfl
theorem m_964 : (Cond.code yX11_leads cX11_leads 3 (some .int)) ∈ gT := gp mP37 mG37 27 rfl
theorem m_965 : (Cond.methodLink RL 45 yX11_say) ∈ gT := gp mP37 mG37 28 rfl
theorem m_966 : (Cond.instanceMethod yX11_say) ∈ gT := gp mP37 mG37 29 rfl
theorem m_967 : (Cond.selects RX11 yX11_say yX11_say) ∈ gT := gp mP37 mG37 30 rfl
theorem m_968 : (Cond.code yX11_say cX11_say 3 (some .int)) ∈ gT := gp mP37 mG37 31 rfl
theorem m_985 : (Cond.methodLink RL 49 yX11_unsay) ∈ gT := gp mP37 mG37 32 rfl
theorem m_986 : (Cond.instanceMethod yX11_unsay) ∈ gT := gp mP37 mG37 33 rfl
theorem m_987 : (Cond.selects RX11 yX11_unsay yX11_unsay) ∈ gT := gp mP37 mG37 34 rfl
theorem m_988 : (Cond.code yX11_unsay cX11_unsay 2 (some .int)) ∈ gT := gp mP37 mG37 35 rfl
theorem m_993 : (Cond.methodLink RL 53 yX11_said) ∈ gT := gp mP37 mG37 36 rfl
theorem m_994 : (Cond.instanceMethod yX11_said) ∈ gT := gp mP37 mG37 37 rfl
theorem m_995 : (Cond.selects RX11 yX11_said yX11_said) ∈ gT := gp mP37 mG37 38 rfl
theorem m_996 : (Cond.code yX11_said cX11_said 3 (some .int)) ∈ gT := gp mP37 mG37 39 rfl
theorem m_1001 : (Cond.methodLink RL 57 yX11_call) ∈ gT := gp mP37 mG37 40 rfl
theorem m_1002 : (Cond.instanceMethod yX11_call) ∈ gT := gp mP37 mG37 41 rfl
theorem m_1003 : (Cond.selects RX11 yX11_call yX11_call) ∈ gT := gp mP37 mG37 42 rfl
theorem m_1004 : (Cond.code yX11_call cX11_call 3 (some .int)) ∈ gT := gp mP37 mG37 43 rfl
theorem m_1084 : (Cond.methodLink RL 61 yX11_noon) ∈ gT := gp mP37 mG37 44 rfl
theorem m_1085 : (Cond.instanceMethod yX11_noon) ∈ gT := gp mP37 mG37 45 rfl
theorem m_1086 : (Cond.selects RX11 yX11_noon yX11_noon) ∈ gT := gp mP37 mG37 46 rfl
theorem m_1087 : (Cond.code yX11_noon cX11_noon 1 (some .int)) ∈ gT := gp mP37 mG37 47 rfl
theorem m_1092 : (Cond.methodLink RL 65 yX11_sweep) ∈ gT := gp mP37 mG37 48 rfl
theorem m_1093 : (Cond.instanceMethod yX11_sweep) ∈ gT := gp mP37 mG37 49 rfl
theorem m_1094 : (Cond.selects RX11 yX11_sweep yX11_sweep) ∈ gT := gp mP37 mG37 50 rfl
theorem m_1095 : (Cond.code yX11_sweep cX11_sweep 2 (some .int)) ∈ gT := gp mP37 mG37 51 rfl
theorem m_1100 : (Cond.methodLink RL 69 yX11_undo) ∈ gT := gp mP37 mG37 52 rfl
theorem m_1101 : (Cond.instanceMethod yX11_undo) ∈ gT := gp mP37 mG37 53 rfl
theorem m_1102 : (Cond.selects RX11 yX11_undo yX11_undo) ∈ gT := gp mP37 mG37 54 rfl
theorem m_1103 : (Cond.code yX11_undo cX11_undo 1 (some .boolean)) ∈ gT := gp mP37 mG37 55 rfl
theorem m_1112 : (Cond.methodLink RL 74 yX11_redo) ∈ gT := gp mP37 mG37 56 rfl
theorem m_1113 : (Cond.instanceMethod yX11_redo) ∈ gT := gp mP37 mG37 57 rfl
theorem m_1114 : (Cond.selects RX11 yX11_redo yX11_redo) ∈ gT := gp mP37 mG37 58 rfl
theorem m_1115 : (Cond.code yX11_redo cX11_redo 1 (some .boolean)) ∈ gT := gp mP37 mG37 59 rfl
theorem m_1120 : (Cond.methodLink RL 78 yX11_echo) ∈ gT := gp mP37 mG37 60 rfl
theorem m_1121 : (Cond.instanceMethod yX11_echo) ∈ gT := gp mP37 mG37 61 rfl
theorem m_1122 : (Cond.selects RX11 yX11_echo yX11_echo) ∈ gT := gp mP37 mG37 62 rfl
theorem m_1123 : (Cond.code yX11_echo cX11_echo 4 (some .int)) ∈ gT := gp mP37 mG37 63 rfl
theorem m_1129 : (Cond.methodLink RL 82 yX11_answers) ∈ gT := gp mP37 mG37 64 rfl
theorem m_1130 : (Cond.instanceMethod yX11_answers) ∈ gT := gp mP37 mG37 65 rfl
theorem m_1131 : (Cond.selects RX11 yX11_answers yX11_answers) ∈ gT := gp mP37 mG37 66 rfl
theorem m_1132 : (Cond.code yX11_answers cX11_answers 6 (some .int)) ∈ gT := gp mP37 mG37 67 rfl
theorem m_1134 : (Cond.methodLink RL 86 yX11_binds) ∈ gT := gp mP37 mG37 68 rfl
theorem m_1135 : (Cond.instanceMethod yX11_binds) ∈ gT := gp mP37 mG37 69 rfl
theorem m_1136 : (Cond.selects RX11 yX11_binds yX11_binds) ∈ gT := gp mP37 mG37 70 rfl
theorem m_1137 : (Cond.code yX11_binds cX11_binds 2 (some .int)) ∈ gT := gp mP37 mG37 71 rfl
theorem m_1138 : (Cond.methodLink RL 90 yX11_pardon) ∈ gT := gp mP37 mG37 72 rfl
theorem m_1139 : (Cond.instanceMethod yX11_pardon) ∈ gT := gp mP37 mG37 73 rfl
theorem m_1140 : (Cond.selects RX11 yX11_pardon yX11_pardon) ∈ gT := gp mP37 mG37 74 rfl
theorem m_1141 : (Cond.code yX11_pardon cX11_pardon 3 (some .int)) ∈ gT := gp mP37 mG37 75 rfl
theorem m_1183 : (Cond.methodLink RL 94 yX11_pardons) ∈ gT := gp mP37 mG37 76 rfl
theorem m_1184 : (Cond.instanceMethod yX11_pardons) ∈ gT := gp mP37 mG37 77 rfl
theorem m_1185 : (Cond.selects RX11 yX11_pardons yX11_pardons) ∈ gT := gp mP37 mG37 78 rfl
theorem m_1186 : (Cond.code yX11_pardons cX11_pardons 3 (some .int)) ∈ gT := gp mP37 mG37 79 rfl
theorem m_1190 : (Cond.methodLink RL 98 yX11_ahead) ∈ gT := gp mP37 mG37 80 rfl
theorem m_1191 : (Cond.instanceMethod yX11_ahead) ∈ gT := gp mP37 mG37 81 rfl
theorem m_1192 : (Cond.selects RX11 yX11_ahead yX11_ahead) ∈ gT := gp mP37 mG37 82 rfl
theorem m_1193 : (Cond.code yX11_ahead cX11_ahead 5 (some .int)) ∈ gT := gp mP37 mG37 83 rfl
theorem m_1215 : (Cond.methodLink RL 103 yX11_yeas) ∈ gT := gp mP37 mG37 84 rfl
theorem m_1216 : (Cond.instanceMethod yX11_yeas) ∈ gT := gp mP37 mG37 85 rfl
theorem m_1217 : (Cond.selects RX11 yX11_yeas yX11_yeas) ∈ gT := gp mP37 mG37 86 rfl
theorem m_1218 : (Cond.code yX11_yeas cX11_yeas 7 (some .int)) ∈ gT := gp mP37 mG37 87 rfl
theorem m_1222 : (Cond.methodLink RL 107 yX11_clears) ∈ gT := gp mP37 mG37 88 rfl
theorem m_1223 : (Cond.instanceMethod yX11_clears) ∈ gT := gp mP37 mG37 89 rfl
theorem m_1224 : (Cond.selects RX11 yX11_clears yX11_clears) ∈ gT := gp mP37 mG37 90 rfl
theorem m_1225 : (Cond.code yX11_clears cX11_clears 6 (some .int)) ∈ gT := gp mP37 mG37 91 rfl
theorem m_1231 : (Cond.methodLink RL 111 yX11_rhyme) ∈ gT := gp mP37 mG37 92 rfl
theorem m_1232 : (Cond.instanceMethod yX11_rhyme) ∈ gT := gp mP37 mG37 93 rfl
theorem m_1233 : (Cond.selects RX11 yX11_rhyme yX11_rhyme) ∈ gT := gp mP37 mG37 94 rfl
theorem m_1234 : (Cond.code yX11_rhyme cX11_rhyme 3 (some .int)) ∈ gT := gp mP37 mG37 95 rfl
theorem m_1280 : (Cond.methodLink RL 115 yX11_joined) ∈ gT := gp mP37 mG37 96 rfl
theorem m_1281 : (Cond.instanceMethod yX11_joined) ∈ gT := gp mP37 mG37 97 rfl
theorem m_1282 : (Cond.selects RX11 yX11_joined yX11_joined) ∈ gT := gp mP37 mG37 98 rfl
theorem m_1283 : (Cond.code yX11_joined cX11_joined 3 (some .int)) ∈ gT := gp mP37 mG37 99 rfl
theorem m_1284 : (Cond.methodLink RL 119 yX11_luck) ∈ gT := gp mP37 mG37 100 rfl
theorem m_1285 : (Cond.instanceMethod yX11_luck) ∈ gT := gp mP37 mG37 101 rfl
theorem m_1286 : (Cond.selects RX11 yX11_luck yX11_luck) ∈ gT := gp mP37 mG37 102 rfl
theorem m_1287 : (Cond.code yX11_luck cX11_luck 4 (some .int)) ∈ gT := gp mP37 mG37 103 rfl
theorem m_1288 : (Cond.methodLink RL 123 yX11_winds) ∈ gT := gp mP37 mG37 104 rfl
theorem m_1289 : (Cond.instanceMethod yX11_winds) ∈ gT := gp mP37 mG37 105 rfl
theorem m_1290 : (Cond.selects RX11 yX11_winds yX11_winds) ∈ gT := gp mP37 mG37 106 rfl
theorem m_1291 : (Cond.code yX11_winds cX11_winds 4 (some .int)) ∈ gT := gp mP37 mG37 107 rfl
theorem m_1292 : (Cond.methodLink RL 127 yX11_more) ∈ gT := gp mP37 mG37 108 rfl
theorem m_1293 : (Cond.instanceMethod yX11_more) ∈ gT := gp mP37 mG37 109 rfl
theorem m_1294 : (Cond.selects RX11 yX11_more yX11_more) ∈ gT := gp mP37 mG37 110 rfl
theorem m_1295 : (Cond.code yX11_more cX11_more 5 (some .int)) ∈ gT := gp mP37 mG37 111 rfl
theorem m_1296 : (Cond.methodLink RL 131 yX11_way) ∈ gT := gp mP37 mG37 112 rfl
theorem m_1297 : (Cond.instanceMethod yX11_way) ∈ gT := gp mP37 mG37 113 rfl
theorem m_1298 : (Cond.selects RX11 yX11_way yX11_way) ∈ gT := gp mP37 mG37 114 rfl
theorem m_1299 : (Cond.code yX11_way cX11_way 3 (some .int)) ∈ gT := gp mP37 mG37 115 rfl
theorem m_1316 : (Cond.methodLink RL 135 yX11_lies) ∈ gT := gp mP37 mG37 116 rfl
theorem m_1317 : (Cond.instanceMethod yX11_lies) ∈ gT := gp mP37 mG37 117 rfl
theorem m_1318 : (Cond.selects RX11 yX11_lies yX11_lies) ∈ gT := gp mP37 mG37 118 rfl
theorem m_1319 : (Cond.code yX11_lies cX11_lies 2 (some .int)) ∈ gT := gp mP37 mG37 119 rfl
theorem m_1320 : (Cond.methodLink RL 139 yX11_sound) ∈ gT := gp mP37 mG37 120 rfl
theorem m_1321 : (Cond.instanceMethod yX11_sound) ∈ gT := gp mP37 mG37 121 rfl
theorem m_1322 : (Cond.selects RX11 yX11_sound yX11_sound) ∈ gT := gp mP37 mG37 122 rfl
theorem m_1323 : (Cond.code yX11_sound cX11_sound 4 (some .int)) ∈ gT := gp mP37 mG37 123 rfl
theorem m_1328 : (Cond.methodLink RL 143 yX11_untell) ∈ gT := gp mP37 mG37 124 rfl
theorem m_1329 : (Cond.instanceMethod yX11_untell) ∈ gT := gp mP37 mG37 125 rfl
theorem m_1330 : (Cond.selects RX11 yX11_untell yX11_untell) ∈ gT := gp mP37 mG37 126 rfl
theorem m_1331 : (Cond.code yX11_untell cX11_untell 2 (some .boolean)) ∈ gT := gp mP37 mG37 127 rfl
theorem m_1336 : (Cond.methodLink RL 148 yX11_later) ∈ gT := gp mP37 mG37 128 rfl
theorem m_1337 : (Cond.instanceMethod yX11_later) ∈ gT := gp mP37 mG37 129 rfl
theorem m_1338 : (Cond.selects RX11 yX11_later yX11_later) ∈ gT := gp mP37 mG37 130 rfl
theorem m_1339 : (Cond.code yX11_later cX11_later 2 (some .int)) ∈ gT := gp mP37 mG37 131 rfl
theorem m_1341 : (Cond.methodLink RL 152 yX11_stood) ∈ gT := gp mP37 mG37 132 rfl
theorem m_1342 : (Cond.instanceMethod yX11_stood) ∈ gT := gp mP37 mG37 133 rfl
theorem m_1343 : (Cond.selects RX11 yX11_stood yX11_stood) ∈ gT := gp mP37 mG37 134 rfl
theorem m_1344 : (Cond.code yX11_stood cX11_stood 3 (some .int)) ∈ gT := gp mP37 mG37 135 rfl
theorem m_1371 : (Cond.methodLink RL 156 yX11_ask) ∈ gT := gp mP37 mG37 136 rfl
theorem m_1372 : (Cond.instanceMethod yX11_ask) ∈ gT := gp mP37 mG37 137 rfl
theorem m_1373 : (Cond.selects RX11 yX11_ask yX11_ask) ∈ gT := gp mP37 mG37 138 rfl
theorem m_1374 : (Cond.code yX11_ask cX11_ask 3 (some .int)) ∈ gT := gp mP37 mG37 139 rfl
theorem m_1384 : (Cond.methodLink RL 160 yX11_image) ∈ gT := gp mP37 mG37 140 rfl
theorem m_1385 : (Cond.instanceMethod yX11_image) ∈ gT := gp mP37 mG37 141 rfl
theorem m_1386 : (Cond.selects RX11 yX11_image yX11_image) ∈ gT := gp mP37 mG37 142 rfl
theorem m_1387 : (Cond.code yX11_image cX11_image 2 (some .int)) ∈ gT := gp mP37 mG37 143 rfl
theorem m_1395 : (Cond.methodLink RL 164 yX11_back) ∈ gT := gp mP37 mG37 144 rfl
theorem m_1396 : (Cond.instanceMethod yX11_back) ∈ gT := gp mP37 mG37 145 rfl
theorem m_1397 : (Cond.selects RX11 yX11_back yX11_back) ∈ gT := gp mP37 mG37 146 rfl
theorem m_1398 : (Cond.code yX11_back cX11_back 2 (some .int)) ∈ gT := gp mP37 mG37 147 rfl
theorem m_1403 : (Cond.methodLink RL 168 yX11_about) ∈ gT := gp mP37 mG37 148 rfl
theorem m_1404 : (Cond.instanceMethod yX11_about) ∈ gT := gp mP37 mG37 149 rfl
theorem m_1405 : (Cond.selects RX11 yX11_about yX11_about) ∈ gT := gp mP37 mG37 150 rfl
theorem m_1406 : (Cond.code yX11_about cX11_about 2 (some .int)) ∈ gT := gp mP37 mG37 151 rfl
theorem m_1682 : (Cond.methodLink RL 17 yX12_feed) ∈ gT := gp mP37 mG37 152 rfl
theorem m_1683 : (Cond.instanceMethod yX12_feed) ∈ gT := gp mP37 mG37 153 rfl
theorem m_1684 : (Cond.selects RX12 yX12_feed yX12_feed) ∈ gT := gp mP37 mG37 154 rfl
theorem m_1685 : (Cond.code yX12_feed cX12_feed 6 (some .int)) ∈ gT := gp mP37 mG37 155 rfl
theorem m_1690 : (Cond.methodLink RL 22 yX12_end) ∈ gT := gp mP37 mG37 156 rfl
theorem m_1691 : (Cond.instanceMethod yX12_end) ∈ gT := gp mP37 mG37 157 rfl
theorem m_1692 : (Cond.selects RX12 yX12_end yX12_end) ∈ gT := gp mP37 mG37 158 rfl
theorem m_1693 : (Cond.code yX12_end cX12_end 2 (some .int)) ∈ gT := gp mP37 mG37 159 rfl
theorem m_1694 : (Cond.methodLink RL 27 yX12_hills) ∈ gT := gp mP37 mG37 160 rfl
theorem m_1695 : (Cond.instanceMethod yX12_hills) ∈ gT := gp mP37 mG37 161 rfl
theorem m_1696 : (Cond.selects RX12 yX12_hills yX12_hills) ∈ gT := gp mP37 mG37 162 rfl
theorem m_1697 : (Cond.code yX12_hills cX12_hills 3 (some .int)) ∈ gT := gp mP37 mG37 163 rfl
theorem m_1862 : (Cond.methodLink RL 31 yX12_fault) ∈ gT := gp mP37 mG37 164 rfl
theorem m_1863 : (Cond.instanceMethod yX12_fault) ∈ gT := gp mP37 mG37 165 rfl
theorem m_1864 : (Cond.selects RX12 yX12_fault yX12_fault) ∈ gT := gp mP37 mG37 166 rfl
theorem m_1865 : (Cond.code yX12_fault cX12_fault 2 (some .int)) ∈ gT := gp mP37 mG37 167 rfl
theorem m_1866 : (Cond.methodLink RL 36 yX12_cliff) ∈ gT := gp mP37 mG37 168 rfl
theorem m_1867 : (Cond.instanceMethod yX12_cliff) ∈ gT := gp mP37 mG37 169 rfl
theorem m_1868 : (Cond.selects RX12 yX12_cliff yX12_cliff) ∈ gT := gp mP37 mG37 170 rfl
theorem m_1869 : (Cond.code yX12_cliff cX12_cliff 3 (some .int)) ∈ gT := gp mP37 mG37 171 rfl
theorem m_1877 : (Cond.methodLink RL 40 yX12_man) ∈ gT := gp mP37 mG37 172 rfl
theorem m_1878 : (Cond.instanceMethod yX12_man) ∈ gT := gp mP37 mG37 173 rfl
theorem m_1879 : (Cond.selects RX12 yX12_man yX12_man) ∈ gT := gp mP37 mG37 174 rfl
theorem m_1880 : (Cond.code yX12_man cX12_man 3 (some .int)) ∈ gT := gp mP37 mG37 175 rfl
theorem m_1885 : (Cond.methodLink RL 44 yX12_leads) ∈ gT := gp mP37 mG37 176 rfl
theorem m_1886 : (Cond.instanceMethod yX12_leads) ∈ gT := gp mP37 mG37 177 rfl
theorem m_1887 : (Cond.selects RX12 yX12_leads yX12_leads) ∈ gT := gp mP37 mG37 178 rfl
theorem m_1888 : (Cond.code yX12_leads cX12_leads 3 (some .int)) ∈ gT := gp mP37 mG37 179 rfl
theorem m_1901 : (Cond.methodLink RL 48 yX12_say) ∈ gT := gp mP37 mG37 180 rfl
theorem m_1902 : (Cond.instanceMethod yX12_say) ∈ gT := gp mP37 mG37 181 rfl
theorem m_1903 : (Cond.selects RX12 yX12_say yX12_say) ∈ gT := gp mP37 mG37 182 rfl
theorem m_1904 : (Cond.code yX12_say cX12_say 3 (some .int)) ∈ gT := gp mP37 mG37 183 rfl
theorem m_1912 : (Cond.methodLink RL 52 yX12_unsay) ∈ gT := gp mP37 mG37 184 rfl
theorem m_1913 : (Cond.instanceMethod yX12_unsay) ∈ gT := gp mP37 mG37 185 rfl
theorem m_1914 : (Cond.selects RX12 yX12_unsay yX12_unsay) ∈ gT := gp mP37 mG37 186 rfl
theorem m_1915 : (Cond.code yX12_unsay cX12_unsay 2 (some .int)) ∈ gT := gp mP37 mG37 187 rfl
theorem m_1916 : (Cond.methodLink RL 56 yX12_said) ∈ gT := gp mP37 mG37 188 rfl
theorem m_1917 : (Cond.instanceMethod yX12_said) ∈ gT := gp mP37 mG37 189 rfl
theorem m_1918 : (Cond.selects RX12 yX12_said yX12_said) ∈ gT := gp mP37 mG37 190 rfl
theorem m_1919 : (Cond.code yX12_said cX12_said 3 (some .int)) ∈ gT := gp mP37 mG37 191 rfl
theorem m_1920 : (Cond.methodLink RL 60 yX12_call) ∈ gT := gp mP37 mG37 192 rfl
theorem m_1921 : (Cond.instanceMethod yX12_call) ∈ gT := gp mP37 mG37 193 rfl
theorem m_1922 : (Cond.selects RX12 yX12_call yX12_call) ∈ gT := gp mP37 mG37 194 rfl
theorem m_1923 : (Cond.code yX12_call cX12_call 3 (some .int)) ∈ gT := gp mP37 mG37 195 rfl
theorem m_1989 : (Cond.methodLink RL 64 yX12_noon) ∈ gT := gp mP37 mG37 196 rfl
theorem m_1990 : (Cond.instanceMethod yX12_noon) ∈ gT := gp mP37 mG37 197 rfl
theorem m_1991 : (Cond.selects RX12 yX12_noon yX12_noon) ∈ gT := gp mP37 mG37 198 rfl
theorem m_1992 : (Cond.code yX12_noon cX12_noon 2 (some .int)) ∈ gT := gp mP37 mG37 199 rfl
theorem m_1993 : (Cond.methodLink RL 68 yX12_sweep) ∈ gT := gp mP37 mG37 200 rfl
theorem m_1994 : (Cond.instanceMethod yX12_sweep) ∈ gT := gp mP37 mG37 201 rfl
theorem m_1995 : (Cond.selects RX12 yX12_sweep yX12_sweep) ∈ gT := gp mP37 mG37 202 rfl
theorem m_1996 : (Cond.code yX12_sweep cX12_sweep 3 (some .int)) ∈ gT := gp mP37 mG37 203 rfl
theorem m_1997 : (Cond.methodLink RL 73 yX12_undo) ∈ gT := gp mP37 mG37 204 rfl
theorem m_1998 : (Cond.instanceMethod yX12_undo) ∈ gT := gp mP37 mG37 205 rfl
theorem m_1999 : (Cond.selects RX12 yX12_undo yX12_undo) ∈ gT := gp mP37 mG37 206 rfl
theorem m_2000 : (Cond.code yX12_undo cX12_undo 1 (some .boolean)) ∈ gT := gp mP37 mG37 207 rfl
theorem m_2005 : (Cond.methodLink RL 77 yX12_redo) ∈ gT := gp mP37 mG37 208 rfl
theorem m_2006 : (Cond.instanceMethod yX12_redo) ∈ gT := gp mP37 mG37 209 rfl
theorem m_2007 : (Cond.selects RX12 yX12_redo yX12_redo) ∈ gT := gp mP37 mG37 210 rfl
theorem m_2008 : (Cond.code yX12_redo cX12_redo 1 (some .boolean)) ∈ gT := gp mP37 mG37 211 rfl
theorem m_2009 : (Cond.methodLink RL 81 yX12_echo) ∈ gT := gp mP37 mG37 212 rfl
theorem m_2010 : (Cond.instanceMethod yX12_echo) ∈ gT := gp mP37 mG37 213 rfl
theorem m_2011 : (Cond.selects RX12 yX12_echo yX12_echo) ∈ gT := gp mP37 mG37 214 rfl
theorem m_2012 : (Cond.code yX12_echo cX12_echo 4 (some .int)) ∈ gT := gp mP37 mG37 215 rfl
theorem m_2013 : (Cond.methodLink RL 85 yX12_answers) ∈ gT := gp mP37 mG37 216 rfl
theorem m_2014 : (Cond.instanceMethod yX12_answers) ∈ gT := gp mP37 mG37 217 rfl
theorem m_2015 : (Cond.selects RX12 yX12_answers yX12_answers) ∈ gT := gp mP37 mG37 218 rfl
theorem m_2016 : (Cond.code yX12_answers cX12_answers 5 (some .int)) ∈ gT := gp mP37 mG37 219 rfl
theorem m_2017 : (Cond.methodLink RL 89 yX12_binds) ∈ gT := gp mP37 mG37 220 rfl
theorem m_2018 : (Cond.instanceMethod yX12_binds) ∈ gT := gp mP37 mG37 221 rfl
theorem m_2019 : (Cond.selects RX12 yX12_binds yX12_binds) ∈ gT := gp mP37 mG37 222 rfl
theorem m_2020 : (Cond.code yX12_binds cX12_binds 2 (some .int)) ∈ gT := gp mP37 mG37 223 rfl
theorem m_2021 : (Cond.methodLink RL 93 yX12_pardon) ∈ gT := gp mP37 mG37 224 rfl
theorem m_2022 : (Cond.instanceMethod yX12_pardon) ∈ gT := gp mP37 mG37 225 rfl
theorem m_2023 : (Cond.selects RX12 yX12_pardon yX12_pardon) ∈ gT := gp mP37 mG37 226 rfl
theorem m_2024 : (Cond.code yX12_pardon cX12_pardon 5 (some .int)) ∈ gT := gp mP37 mG37 227 rfl
theorem m_2041 : (Cond.methodLink RL 97 yX12_pardons) ∈ gT := gp mP37 mG37 228 rfl
theorem m_2042 : (Cond.instanceMethod yX12_pardons) ∈ gT := gp mP37 mG37 229 rfl
theorem m_2043 : (Cond.selects RX12 yX12_pardons yX12_pardons) ∈ gT := gp mP37 mG37 230 rfl
theorem m_2044 : (Cond.code yX12_pardons cX12_pardons 6 (some .int)) ∈ gT := gp mP37 mG37 231 rfl
theorem m_2045 : (Cond.methodLink RL 102 yX12_ahead) ∈ gT := gp mP37 mG37 232 rfl
theorem m_2046 : (Cond.instanceMethod yX12_ahead) ∈ gT := gp mP37 mG37 233 rfl
theorem m_2047 : (Cond.selects RX12 yX12_ahead yX12_ahead) ∈ gT := gp mP37 mG37 234 rfl
theorem m_2048 : (Cond.code yX12_ahead cX12_ahead 7 (some .int)) ∈ gT := gp mP37 mG37 235 rfl
theorem m_2053 : (Cond.methodLink RL 106 yX12_yeas) ∈ gT := gp mP37 mG37 236 rfl
theorem m_2054 : (Cond.instanceMethod yX12_yeas) ∈ gT := gp mP37 mG37 237 rfl
theorem m_2055 : (Cond.selects RX12 yX12_yeas yX12_yeas) ∈ gT := gp mP37 mG37 238 rfl
theorem m_2056 : (Cond.code yX12_yeas cX12_yeas 7 (some .int)) ∈ gT := gp mP37 mG37 239 rfl
theorem m_2057 : (Cond.methodLink RL 110 yX12_clears) ∈ gT := gp mP37 mG37 240 rfl
theorem m_2058 : (Cond.instanceMethod yX12_clears) ∈ gT := gp mP37 mG37 241 rfl
theorem m_2059 : (Cond.selects RX12 yX12_clears yX12_clears) ∈ gT := gp mP37 mG37 242 rfl
theorem m_2060 : (Cond.code yX12_clears cX12_clears 6 (some .int)) ∈ gT := gp mP37 mG37 243 rfl
theorem m_2064 : (Cond.methodLink RL 114 yX12_rhyme) ∈ gT := gp mP37 mG37 244 rfl
theorem m_2065 : (Cond.instanceMethod yX12_rhyme) ∈ gT := gp mP37 mG37 245 rfl
theorem m_2066 : (Cond.selects RX12 yX12_rhyme yX12_rhyme) ∈ gT := gp mP37 mG37 246 rfl
theorem m_2067 : (Cond.code yX12_rhyme cX12_rhyme 4 (some .int)) ∈ gT := gp mP37 mG37 247 rfl
theorem m_2080 : (Cond.methodLink RL 118 yX12_joined) ∈ gT := gp mP37 mG37 248 rfl
theorem m_2081 : (Cond.instanceMethod yX12_joined) ∈ gT := gp mP37 mG37 249 rfl
theorem m_2082 : (Cond.selects RX12 yX12_joined yX12_joined) ∈ gT := gp mP37 mG37 250 rfl
theorem m_2083 : (Cond.code yX12_joined cX12_joined 5 (some .int)) ∈ gT := gp mP37 mG37 251 rfl
theorem m_2088 : (Cond.methodLink RL 122 yX12_luck) ∈ gT := gp mP37 mG37 252 rfl
theorem m_2089 : (Cond.instanceMethod yX12_luck) ∈ gT := gp mP37 mG37 253 rfl
theorem m_2090 : (Cond.selects RX12 yX12_luck yX12_luck) ∈ gT := gp mP37 mG37 254 rfl
theorem m_2091 : (Cond.code yX12_luck cX12_luck 4 (some .int)) ∈ gT := gp mP37 mG37 255 rfl
theorem m_2092 : (Cond.methodLink RL 126 yX12_winds) ∈ gT := gp mP37 mG37 256 rfl
theorem m_2093 : (Cond.instanceMethod yX12_winds) ∈ gT := gp mP37 mG37 257 rfl
theorem m_2094 : (Cond.selects RX12 yX12_winds yX12_winds) ∈ gT := gp mP37 mG37 258 rfl
theorem m_2095 : (Cond.code yX12_winds cX12_winds 4 (some .int)) ∈ gT := gp mP37 mG37 259 rfl
theorem m_2096 : (Cond.methodLink RL 130 yX12_more) ∈ gT := gp mP37 mG37 260 rfl
theorem m_2097 : (Cond.instanceMethod yX12_more) ∈ gT := gp mP37 mG37 261 rfl
theorem m_2098 : (Cond.selects RX12 yX12_more yX12_more) ∈ gT := gp mP37 mG37 262 rfl
theorem m_2099 : (Cond.code yX12_more cX12_more 4 (some .int)) ∈ gT := gp mP37 mG37 263 rfl
theorem m_2100 : (Cond.methodLink RL 134 yX12_way) ∈ gT := gp mP37 mG37 264 rfl
theorem m_2101 : (Cond.instanceMethod yX12_way) ∈ gT := gp mP37 mG37 265 rfl
theorem m_2102 : (Cond.selects RX12 yX12_way yX12_way) ∈ gT := gp mP37 mG37 266 rfl
theorem m_2103 : (Cond.code yX12_way cX12_way 6 (some .int)) ∈ gT := gp mP37 mG37 267 rfl
theorem m_2104 : (Cond.methodLink RL 138 yX12_lies) ∈ gT := gp mP37 mG37 268 rfl
theorem m_2105 : (Cond.instanceMethod yX12_lies) ∈ gT := gp mP37 mG37 269 rfl
theorem m_2106 : (Cond.selects RX12 yX12_lies yX12_lies) ∈ gT := gp mP37 mG37 270 rfl
theorem m_2107 : (Cond.code yX12_lies cX12_lies 2 (some .int)) ∈ gT := gp mP37 mG37 271 rfl
theorem m_2108 : (Cond.methodLink RL 142 yX12_sound) ∈ gT := gp mP37 mG37 272 rfl
theorem m_2109 : (Cond.instanceMethod yX12_sound) ∈ gT := gp mP37 mG37 273 rfl
theorem m_2110 : (Cond.selects RX12 yX12_sound yX12_sound) ∈ gT := gp mP37 mG37 274 rfl
theorem m_2111 : (Cond.code yX12_sound cX12_sound 4 (some .int)) ∈ gT := gp mP37 mG37 275 rfl
theorem m_2112 : (Cond.methodLink RL 147 yX12_untell) ∈ gT := gp mP37 mG37 276 rfl
theorem m_2113 : (Cond.instanceMethod yX12_untell) ∈ gT := gp mP37 mG37 277 rfl
theorem m_2114 : (Cond.selects RX12 yX12_untell yX12_untell) ∈ gT := gp mP37 mG37 278 rfl
theorem m_2115 : (Cond.code yX12_untell cX12_untell 2 (some .boolean)) ∈ gT := gp mP37 mG37 279 rfl
theorem m_2116 : (Cond.methodLink RL 151 yX12_later) ∈ gT := gp mP37 mG37 280 rfl
theorem m_2117 : (Cond.instanceMethod yX12_later) ∈ gT := gp mP37 mG37 281 rfl
theorem m_2118 : (Cond.selects RX12 yX12_later yX12_later) ∈ gT := gp mP37 mG37 282 rfl
theorem m_2119 : (Cond.code yX12_later cX12_later 2 (some .int)) ∈ gT := gp mP37 mG37 283 rfl
theorem m_2121 : (Cond.methodLink RL 155 yX12_stood) ∈ gT := gp mP37 mG37 284 rfl
theorem m_2122 : (Cond.instanceMethod yX12_stood) ∈ gT := gp mP37 mG37 285 rfl
theorem m_2123 : (Cond.selects RX12 yX12_stood yX12_stood) ∈ gT := gp mP37 mG37 286 rfl
theorem m_2124 : (Cond.code yX12_stood cX12_stood 6 (some .int)) ∈ gT := gp mP37 mG37 287 rfl
theorem m_2133 : (Cond.methodLink RL 159 yX12_ask) ∈ gT := gp mP37 mG37 288 rfl
theorem m_2134 : (Cond.instanceMethod yX12_ask) ∈ gT := gp mP37 mG37 289 rfl
theorem m_2135 : (Cond.selects RX12 yX12_ask yX12_ask) ∈ gT := gp mP37 mG37 290 rfl
theorem m_2136 : (Cond.code yX12_ask cX12_ask 8 (some .int)) ∈ gT := gp mP37 mG37 291 rfl
theorem m_2141 : (Cond.methodLink RL 163 yX12_image) ∈ gT := gp mP37 mG37 292 rfl
theorem m_2142 : (Cond.instanceMethod yX12_image) ∈ gT := gp mP37 mG37 293 rfl
theorem m_2143 : (Cond.selects RX12 yX12_image yX12_image) ∈ gT := gp mP37 mG37 294 rfl
theorem m_2144 : (Cond.code yX12_image cX12_image 3 (some .int)) ∈ gT := gp mP37 mG37 295 rfl
theorem m_2148 : (Cond.methodLink RL 167 yX12_back) ∈ gT := gp mP37 mG37 296 rfl
theorem m_2149 : (Cond.instanceMethod yX12_back) ∈ gT := gp mP37 mG37 297 rfl
theorem m_2150 : (Cond.selects RX12 yX12_back yX12_back) ∈ gT := gp mP37 mG37 298 rfl
theorem m_2151 : (Cond.code yX12_back cX12_back 3 (some .int)) ∈ gT := gp mP37 mG37 299 rfl
theorem m_2152 : (Cond.methodLink RL 171 yX12_about) ∈ gT := gp mP37 mG37 300 rfl
theorem m_2153 : (Cond.instanceMethod yX12_about) ∈ gT := gp mP37 mG37 301 rfl
theorem m_2154 : (Cond.selects RX12 yX12_about yX12_about) ∈ gT := gp mP37 mG37 302 rfl
theorem m_2155 : (Cond.code yX12_about cX12_about 2 (some .int)) ∈ gT := gp mP37 mG37 303 rfl
/-! THE CLAIM OUT OF ONE WALK OF THE LAW'S BODY. Your part is whole_start (and what it stands on); all else here is the same for every law, but numbers. -/
def R_law : String := "CliffJudgesLaw"
def lw_P (b : Addr) (xs : List Int32) (args : Array Value) (s : State) : Prop := args = #[.ref b] ∧ s.IntsAt b xs ∧ xs.length ≤ 3072 ∧ (Jvm.Cond.and given_1 narrow_1).before args s = true
def lw_Q (_ : Array Value) (s : State) (o : Outcome) (t : State) : Prop := o = .returned (some (.int 1)) ∧ Framed s o t [] 600000 7302250
def lw_Z (below : List Frame) (a : Array Value) (s : State) : State → Prop := fun t => ∃ o, t.status = .running ∧ Ended t below o ∧ lw_Q a s o t
/-- the law's own end, with 1 on the stack, nothing written that was there before, its room as the claim has it -/
theorem lw_ret {p : Program} {l : Launch} {e : Env} {s : State} {m : MethodId} {below : List Frame} {meth : Method} {c : Code} {b : Nat} (hx : p.tables.exec = Jvm.exec) (hb : c.code = code) (hr : meth.sig.returnType = ret) (hlocks : meth.locks = false) {pc : Nat} {H : Heap} {ls : Array Slot} (hdg : decode code pc = .ok (.ireturn, 1)) : W p l e room_1 s m #[Value.ref b] below meth c H [] 600000 7302250 (lw_Z below #[Value.ref b] s) (F0 m pc ls [.int 1]) := by
  intro T hT X
  obtain ⟨fs, hret, hrun, hended, hW, hframe⟩ := X.leave (v := some (.int 1)) (hlocks := hlocks) (fun h => by rw [hr] at h; cases h)
  have hmeth' : T.vm.method? m = some meth := X.method'
  refine ⟨T.setFrames fs, ?_, .returned (some (.int 1)), hrun, hended, rfl, ⟨_, rfl⟩, hW, hframe⟩
  jvm_step X.here [X.here.top, hx, hb, hdg, hmeth', hr, ret, narrow_b1]
  (try refine ⟨rfl, ?_⟩); (try refine ⟨rfl, ?_⟩)
  first | (intro acts; rw [hret _ acts rfl rfl rfl]) | rw [hret _ _ rfl rfl rfl]
  exact Steps.refl _
/-- what holds at the law's entry: the machine, the code, the tables' words (any of lw_tbl by 'hts w (by decide +kernel)'), the script of L ints xs at the cell b, what the Statement gives of the start (any of its parts by flat_of_before) -/
def lw_At (p : Program) (s : State) (m : MethodId) (meth : Method) (c : Code) (b L : Nat) (xs : Nat → Int32) : Prop :=
  p.tables.exec = Jvm.exec ∧ c.code = code ∧ meth.sig.returnType = ret ∧ c.maxLocals = 4 ∧ s.vm.findClass R_law = some m.cls ∧ (∀ w ∈ lw_tbl, w.before #[Value.ref b] s = true) ∧ va_X b L xs s s.heap ∧ b < s.heap.size ∧ meth.locks = false ∧ (Jvm.Cond.and given_1 narrow_1).before #[Value.ref b] s = true
theorem cutX (cy : Nat → ClassId) (x0 m0 : Nat) (u v : XS) : xCut (IX cy x0 u ++ IM cy m0 v) (IX cy x0 u) (IM cy m0 v) [0, 1, 2, 3, 4, 5, 6, 7, 8, 9, 10, 11, 12, 13, 14, 15, 16, 17, 18, 19, 20, 21, 22, 23, 24, 25, 26, 27, 28, 29, 30, 31, 32, 33, 34, 35, 36, 37, 38, 39, 40, 41, 42, 43, 44, 45, 46, 47, 48, 49, 50, 51, 52, 53, 54, 55, 56, 57, 58, 59, 60, 61, 62, 63, 64, 65, 66, 67, 68, 69, 70, 71, 72, 73, 74, 75, 76, 77, 78, 79, 80, 81, 82, 83, 84, 85, 86, 87, 88, 89, 90, 91, 92, 93] [94, 95, 96, 97, 98, 99, 100, 101, 102, 103, 104, 105, 106, 107, 108, 109, 110, 111, 112, 113, 114, 115, 116, 117, 118, 119, 120, 121, 122, 123, 124, 125, 126, 127, 128, 129, 130, 131, 132, 133, 134, 135, 136, 137, 138, 139, 140, 141] := ⟨rfl, rfl, by decide +kernel, by decide +kernel, by decide +kernel⟩
theorem cutM (cy : Nat → ClassId) (x0 m0 : Nat) (u v : XS) : xCut (IM cy m0 v ++ IX cy x0 u) (IM cy m0 v) (IX cy x0 u) [0, 1, 2, 3, 4, 5, 6, 7, 8, 9, 10, 11, 12, 13, 14, 15, 16, 17, 18, 19, 20, 21, 22, 23, 24, 25, 26, 27, 28, 29, 30, 31, 32, 33, 34, 35, 36, 37, 38, 39, 40, 41, 42, 43, 44, 45, 46, 47] [48, 49, 50, 51, 52, 53, 54, 55, 56, 57, 58, 59, 60, 61, 62, 63, 64, 65, 66, 67, 68, 69, 70, 71, 72, 73, 74, 75, 76, 77, 78, 79, 80, 81, 82, 83, 84, 85, 86, 87, 88, 89, 90, 91, 92, 93, 94, 95, 96, 97, 98, 99, 100, 101, 102, 103, 104, 105, 106, 107, 108, 109, 110, 111, 112, 113, 114, 115, 116, 117, 118, 119, 120, 121, 122, 123, 124, 125, 126, 127, 128, 129, 130, 131, 132, 133, 134, 135, 136, 137, 138, 139, 140, 141] := ⟨rfl, rfl, by decide +kernel, by decide +kernel, by decide +kernel⟩
/-- class and reference agree on the tape's length and on the time -/
def sameT (u v : XS) : Prop := ((u.1 81) = (v.1 47) ∧ (u.2.1 16) = (v.2.1 15) ∧ tpR (u.2.2.2.2.1 0) (v.2.2.2.2.1 0) (u.1 81) ∧ (u.2.1 5) = nI (v.1 48) ∧ (u.2.1 6) = (v.2.1 0)) ∧ RH (TXh u) (TMh v) ∧ RS (u.2.1 16) (TXs u) (TMs v) ∧ RMt 29 (TXm u) (TMm v)
theorem feed_same {t t2 n n2 : Nat} {r r' : Int32} (e : t = n) (h1 : (t2 = t + 20 ∧ t + 20 ≤ 1600 ∧ r = nI t2) ∨ (t2 = t ∧ 1600 < t + 20 ∧ r = -1)) (h2 : (n2 = n + 20 ∧ n + 20 ≤ 1600 ∧ r' = nI n2) ∨ (n2 = n ∧ 1600 < n + 20 ∧ r' = -1)) : r = r' ∧ t2 = n2 := by
  rcases h1 with ⟨a1, a2, a3⟩ | ⟨a1, a2, a3⟩ <;> rcases h2 with ⟨b1, b2, b3⟩ | ⟨b1, b2, b3⟩
  · exact ⟨by rw [a3, b3, show t2 = n2 by omega], by omega⟩
  · omega
  · omega
  · exact ⟨by rw [a3, b3], by omega⟩
theorem end_same {t t2 n n2 : Nat} {x r r' : Int32} (ht : t ≤ 1600) (e : t = n) (h1 : (∃ j9 : Nat, j9 ≤ t ∧ x = nI j9 ∧ t2 = j9 ∧ r = x) ∨ ((∀ j9 : Nat, j9 ≤ t → x = nI j9 → False) ∧ t2 = t ∧ r = -1)) (h2 : (∃ j9 : Nat, j9 ≤ n ∧ x = nI j9 ∧ n2 = j9 ∧ r' = x) ∨ ((∀ j9 : Nat, j9 ≤ n → x = nI j9 → False) ∧ n2 = n ∧ r' = -1)) : r = r' ∧ t2 = n2 := by
  subst e
  rcases h1 with ⟨j, a1, a2, a3, a4⟩ | ⟨a1, a2, a3⟩ <;> rcases h2 with ⟨k, b1, b2, b3, b4⟩ | ⟨b1, b2, b3⟩
  · have := (nI_eq (by omega) (by omega)).mp (a2.symm.trans b2)
    exact ⟨by rw [a4, b4], by omega⟩
  · exact absurd a2 (fun h => b1 j a1 h)
  · exact absurd b2 (fun h => a1 k b1 h)
  · exact ⟨by rw [a3, b3], by omega⟩
theorem later_same {t t2 n n2 y r r' : Int32} (e : t = n) (h1 : (r, t2) = laterF t y) (h2 : (r', n2) = laterF n y) : r = r' ∧ t2 = n2 := by
  subst e
  have h := h1.trans h2.symm
  exact ⟨congrArg Prod.fst h, congrArg Prod.snd h⟩
theorem gt_cmp {i L : Nat} (hi : i ≤ 4000) (hL : L ≤ 4000) : (nI L - 6 < nI i) ↔ L < i + 6 := by
  rw [fa_lt, show (6 : Int32) = nI 6 from rfl, pk_sub_toInt (by omega) (by omega), nI_toInt (by omega)]
  omega
/-- what holds at the law's switch -/
def lwC (p : Program) (s : State) (m : MethodId) (meth : Method) (c : Code) (b L : Nat) (xs : Nat → Int32) (D : va_G) (cy : Nat → ClassId) (A : Nat → Prop) : Prop :=
  p.tables.exec = Jvm.exec ∧ c.code = code ∧ meth.sig.returnType = ret ∧ c.maxLocals = 4 ∧ s.vm.findClass RL = some m.cls ∧ (∀ w ∈ gT, w.before #[Value.ref b] s = true) ∧ meth.locks = false ∧ va_X b L xs s s.heap ∧ b < s.heap.size ∧ va_K D vwCl (tyL cy) s ∧ (∀ q, s.heap.size ≤ q → A q) ∧ (∀ q, A q → s.heap.size ≤ q) ∧ ¬ A b
/-- a world of class and reference, in which the law goes on from the place pc -/
def lwW (p : Program) (l : Launch) (e : Env) (s : State) (m : MethodId) (below : List Frame) (meth : Method) (c : Code) (b : Nat) (D : va_G) (cy : Nat → ClassId) (A : Nat → Prop) (x0 m0 i pc : Nat) : Prop :=
  ∀ (u v : XS) (H : Heap) (locs : List Loc) (ls : Array Slot), okX u → okM v → sameT u v → va_P D vwCl (IX cy x0 u ++ IM cy m0 v) H → va_D A (IX cy x0 u ++ IM cy m0 v) → va_S A s.heap H locs → lv_has ls 4 [(3, .int (nI i)), (2, .ref m0), (1, .ref x0), (0, .ref b)] → W p l e room_1 s m #[Value.ref b] below meth c H locs 142 14416 (lw_Z below #[Value.ref b] s) (F0 m pc ls [])
theorem byN_0 : byN (fun _ => 0) := fun _ _ => ⟨show ¬ (0 : Int32) < 0 by decide, show (0 : Int32) ≤ 255 by decide⟩
section SM
variable {tn tn2 n n2 : Nat} {ut ut2 t t2 q q2 p p2 a a2 b b2 r r' : Int32} {f f2 g g2 : Nat → Int32}
theorem sm_d (hT : tn = n ∧ ut = t ∧ tpR f g tn ∧ q = a ∧ p = b) (h1 : tn2 = tn ∧ ut2 = ut ∧ f2 = f ∧ q2 = q ∧ p2 = p) (h2 : n2 = n ∧ t2 = t ∧ g2 = g ∧ a2 = a ∧ b2 = b) : tn2 = n2 ∧ ut2 = t2 ∧ tpR f2 g2 tn2 ∧ q2 = a2 ∧ p2 = b2 := by
  obtain ⟨x1, x2, x3, x4, x5⟩ := hT
  obtain ⟨y1, y2, y3, y4, y5⟩ := h1
  obtain ⟨z1, z2, z3, z4, z5⟩ := h2
  subst y1 y2 y3 y4 y5 z1 z2 z3 z4 z5
  exact ⟨x1, x2, x3, x4, x5⟩
theorem sm_fault {w : Int32} (hT : tn = n ∧ ut = t ∧ tpR f g tn ∧ q = a ∧ p = b) (h1 : tn2 = tn ∧ ut2 = ut ∧ f2 = f ∧ q2 = q ∧ p2 = p ∧ r = ftF q p w) (h2 : n2 = n ∧ t2 = t ∧ g2 = g ∧ a2 = a ∧ b2 = b ∧ r' = ftF a b w) : r = r' ∧ (tn2 = n2 ∧ ut2 = t2 ∧ tpR f2 g2 tn2 ∧ q2 = a2 ∧ p2 = b2) := by
  obtain ⟨x1, x2, x3, x4, x5⟩ := hT
  obtain ⟨y1, y2, y3, y4, y5, y6⟩ := h1
  obtain ⟨z1, z2, z3, z4, z5, z6⟩ := h2
  subst y1 y2 y3 y4 y5 z1 z2 z3 z4 z5
  exact ⟨by rw [y6, z6, x4, x5], x1, x2, x3, x4, x5⟩
theorem sm_later {y : Int32} (hT : tn = n ∧ ut = t ∧ tpR f g tn ∧ q = a ∧ p = b) (h1 : tn2 = tn ∧ (r, ut2) = laterF ut y ∧ f2 = f ∧ q2 = q ∧ p2 = p) (h2 : n2 = n ∧ (r', t2) = laterF t y ∧ g2 = g ∧ a2 = a ∧ b2 = b) : r = r' ∧ (tn2 = n2 ∧ ut2 = t2 ∧ tpR f2 g2 tn2 ∧ q2 = a2 ∧ p2 = b2) := by
  obtain ⟨x1, x2, x3, x4, x5⟩ := hT
  obtain ⟨y1, y2, y3, y4, y5⟩ := h1
  obtain ⟨z1, z2, z3, z4, z5⟩ := h2
  subst y1 y3 y4 y5 z1 z3 z4 z5
  have h9 := later_same x2 y2 z2
  exact ⟨h9.1, x1, h9.2, x3, x4, x5⟩
theorem sm_end {x : Int32} (ht : tn ≤ 1600) (hT : tn = n ∧ ut = t ∧ tpR f g tn ∧ q = a ∧ p = b) (h1 : ((∃ j9 : Nat, j9 ≤ tn ∧ x = nI j9 ∧ tn2 = j9 ∧ r = x) ∨ ((∀ j9 : Nat, j9 ≤ tn → x = nI j9 → False) ∧ tn2 = tn ∧ r = -1)) ∧ ut2 = ut ∧ f2 = f ∧ q2 = q ∧ p2 = p) (h2 : ((∃ j9 : Nat, j9 ≤ n ∧ x = nI j9 ∧ n2 = j9 ∧ r' = x) ∨ ((∀ j9 : Nat, j9 ≤ n → x = nI j9 → False) ∧ n2 = n ∧ r' = -1)) ∧ t2 = t ∧ g2 = g ∧ a2 = a ∧ b2 = b) : r = r' ∧ (tn2 = n2 ∧ ut2 = t2 ∧ tpR f2 g2 tn2 ∧ q2 = a2 ∧ p2 = b2) := by
  obtain ⟨x1, x2, x3, x4, x5⟩ := hT
  obtain ⟨y1, y2, y3, y4, y5⟩ := h1
  obtain ⟨z1, z2, z3, z4, z5⟩ := h2
  subst y2 y3 y4 y5 z2 z3 z4 z5
  have h9 := end_same ht x1 y1 z1
  have hle : tn2 ≤ tn := by
    rcases y1 with ⟨j, h1, _, h3, _⟩ | ⟨_, h3, _⟩ <;> omega
  exact ⟨h9.1, h9.2, x2, fun i hi => x3 i (by omega), x4, x5⟩
theorem fe_tp {xa xb xc xd xe : Int32} (h : tpR f g tn) : tpR (feC f tn xa xb xc xd xe) (feR g tn xa xb xc xd xe) (tn + 20) :=
  ap_tp (ap_tp (ap_tp (ap_tp (ap_tp h xa) xb) xc) xd) xe
theorem sm_feed {xa xb xc xd xe : Int32} (hT : tn = n ∧ ut = t ∧ tpR f g tn ∧ q = a ∧ p = b) (h1 : ((tn2 = tn + 20 ∧ tn + 20 ≤ 1600 ∧ r = nI tn2 ∧ f2 = feC f tn xa xb xc xd xe) ∨ (tn2 = tn ∧ 1600 < tn + 20 ∧ r = -1 ∧ f2 = f)) ∧ ut2 = ut ∧ q2 = q ∧ p2 = p) (h2 : ((n2 = n + 20 ∧ n + 20 ≤ 1600 ∧ r' = nI n2 ∧ g2 = feR g n xa xb xc xd xe) ∨ (n2 = n ∧ 1600 < n + 20 ∧ r' = -1 ∧ g2 = g)) ∧ t2 = t ∧ a2 = a ∧ b2 = b) : r = r' ∧ (tn2 = n2 ∧ ut2 = t2 ∧ tpR f2 g2 tn2 ∧ q2 = a2 ∧ p2 = b2) := by
  obtain ⟨x1, x2, x3, x4, x5⟩ := hT
  obtain ⟨y1, y2, y4, y5⟩ := h1
  obtain ⟨z1, z2, z4, z5⟩ := h2
  subst x1 y2 y4 y5 z2 z4 z5
  rcases y1 with ⟨a1, a2, a3, a4⟩ | ⟨a1, a2, a3, a4⟩ <;> rcases z1 with ⟨b1, b2, b3, b4⟩ | ⟨b1, b2, b3, b4⟩
  · subst a1 b1 a4 b4
    exact ⟨by rw [a3, b3], rfl, x2, fe_tp x3, x4, x5⟩
  · omega
  · omega
  · subst a1 b1 a4 b4
    exact ⟨by rw [a3, b3], rfl, x2, x3, x4, x5⟩
theorem flt_tp {co c : Nat} (h : tpR f g tn) (h1 : flt f tn c co q p) (h2 : flt g tn c co a b) : q = a ∧ p = b := by
  unfold flt at h1 h2
  rw [knd_tp h, stt_tp h] at h1
  exact ⟨h1.1.trans h2.1.symm, h1.2.trans h2.2.symm⟩
theorem sm_hills (hT : tn = n ∧ ut = t ∧ tpR f g tn ∧ q = a ∧ p = b) (h1 : tn2 = 0 ∧ ut2 = ut ∧ f2 = f ∧ ((r = -1 ∧ ∃ co b, PR f tn aS0 (.inl (co, b)) ∧ flt f tn b co q2 p2) ∨ (∃ gs, PR f tn aS0 (.inr gs) ∧ r = nI (sC gs 1) ∧ q2 = 0 ∧ p2 = -1))) (h2 : n2 = 0 ∧ t2 = t ∧ g2 = g ∧ ((r' = -1 ∧ ∃ co b, PR g n aS0 (.inl (co, b)) ∧ flt g n b co a2 b2) ∨ (∃ gs, PR g n aS0 (.inr gs) ∧ r' = nI (sC gs 1) ∧ a2 = 0 ∧ b2 = -1))) : r = r' ∧ (tn2 = n2 ∧ ut2 = t2 ∧ tpR f2 g2 tn2 ∧ q2 = a2 ∧ p2 = b2) := by
  obtain ⟨x1, x2, x3, x4, x5⟩ := hT
  obtain ⟨y1, y2, y3, y6⟩ := h1
  obtain ⟨z1, z2, z3, z6⟩ := h2
  subst x1 y1 y2 y3 z1 z2 z3
  have hk : r = r' ∧ q2 = a2 ∧ p2 = b2 := by
    rcases y6 with ⟨a1, co, c, a2, a3⟩ | ⟨gs, a1, a2, a3, a4⟩ <;> rcases z6 with ⟨b1, co', c', b2, b3⟩ | ⟨gs', b1, b2, b3, b4⟩
    · have e := (PR_tp x3 a2).det b2
      cases e
      have h9 := flt_tp x3 a3 b3
      exact ⟨by rw [a1, b1], h9.1, h9.2⟩
    · have e := (PR_tp x3 a2).det b1; cases e
    · have e := (PR_tp x3 a1).det b2; cases e
    · have e := (PR_tp x3 a1).det b1
      cases e
      exact ⟨by rw [a2, b2], by rw [a3, b3], by rw [a4, b4]⟩
  exact ⟨hk.1, rfl, x2, fun i hi => absurd hi (Nat.not_lt_zero i), hk.2.1, hk.2.2⟩
end SM
theorem gdL_law_200 : decode cL_law 200 = .ok (.aload_n 1, 1) ∧ decode cL_law 201 = .ok (.aload_n 0, 1) ∧ decode cL_law 202 = .ok (.iload_n 3, 1) ∧ decode cL_law 203 = .ok (.iconst 1, 1) ∧ decode cL_law 204 = .ok (.iadd, 1) ∧ decode cL_law 205 = .ok (.iaload, 1) ∧ decode cL_law 206 = .ok (.aload_n 0, 1) ∧ decode cL_law 207 = .ok (.iload_n 3, 1) ∧ decode cL_law 208 = .ok (.iconst 2, 1) ∧ decode cL_law 209 = .ok (.iadd, 1) ∧ decode cL_law 210 = .ok (.iaload, 1) ∧ decode cL_law 211 = .ok (.aload_n 0, 1) := by decide +kernel
theorem dL_law_200 : decode cL_law 200 = .ok (.aload_n 1, 1) := gdL_law_200.1
theorem dL_law_201 : decode cL_law 201 = .ok (.aload_n 0, 1) := gdL_law_200.2.1
theorem dL_law_202 : decode cL_law 202 = .ok (.iload_n 3, 1) := gdL_law_200.2.2.1
theorem dL_law_203 : decode cL_law 203 = .ok (.iconst 1, 1) := gdL_law_200.2.2.2.1
theorem dL_law_204 : decode cL_law 204 = .ok (.iadd, 1) := gdL_law_200.2.2.2.2.1
theorem dL_law_205 : decode cL_law 205 = .ok (.iaload, 1) := gdL_law_200.2.2.2.2.2.1
theorem dL_law_206 : decode cL_law 206 = .ok (.aload_n 0, 1) := gdL_law_200.2.2.2.2.2.2.1
theorem dL_law_207 : decode cL_law 207 = .ok (.iload_n 3, 1) := gdL_law_200.2.2.2.2.2.2.2.1
theorem dL_law_208 : decode cL_law 208 = .ok (.iconst 2, 1) := gdL_law_200.2.2.2.2.2.2.2.2.1
theorem dL_law_209 : decode cL_law 209 = .ok (.iadd, 1) := gdL_law_200.2.2.2.2.2.2.2.2.2.1
theorem dL_law_210 : decode cL_law 210 = .ok (.iaload, 1) := gdL_law_200.2.2.2.2.2.2.2.2.2.2.1
theorem dL_law_211 : decode cL_law 211 = .ok (.aload_n 0, 1) := gdL_law_200.2.2.2.2.2.2.2.2.2.2.2
theorem gdL_law_212 : decode cL_law 212 = .ok (.iload_n 3, 1) ∧ decode cL_law 213 = .ok (.iconst 3, 1) ∧ decode cL_law 214 = .ok (.iadd, 1) ∧ decode cL_law 215 = .ok (.iaload, 1) ∧ decode cL_law 216 = .ok (.aload_n 0, 1) ∧ decode cL_law 217 = .ok (.iload_n 3, 1) ∧ decode cL_law 218 = .ok (.iconst 4, 1) ∧ decode cL_law 219 = .ok (.iadd, 1) ∧ decode cL_law 220 = .ok (.iaload, 1) ∧ decode cL_law 221 = .ok (.aload_n 0, 1) ∧ decode cL_law 222 = .ok (.iload_n 3, 1) ∧ decode cL_law 223 = .ok (.iconst 5, 1) := by decide +kernel
theorem dL_law_212 : decode cL_law 212 = .ok (.iload_n 3, 1) := gdL_law_212.1
theorem dL_law_213 : decode cL_law 213 = .ok (.iconst 3, 1) := gdL_law_212.2.1
theorem dL_law_214 : decode cL_law 214 = .ok (.iadd, 1) := gdL_law_212.2.2.1
theorem dL_law_215 : decode cL_law 215 = .ok (.iaload, 1) := gdL_law_212.2.2.2.1
theorem dL_law_216 : decode cL_law 216 = .ok (.aload_n 0, 1) := gdL_law_212.2.2.2.2.1
theorem dL_law_217 : decode cL_law 217 = .ok (.iload_n 3, 1) := gdL_law_212.2.2.2.2.2.1
theorem dL_law_218 : decode cL_law 218 = .ok (.iconst 4, 1) := gdL_law_212.2.2.2.2.2.2.1
theorem dL_law_219 : decode cL_law 219 = .ok (.iadd, 1) := gdL_law_212.2.2.2.2.2.2.2.1
theorem dL_law_220 : decode cL_law 220 = .ok (.iaload, 1) := gdL_law_212.2.2.2.2.2.2.2.2.1
theorem dL_law_221 : decode cL_law 221 = .ok (.aload_n 0, 1) := gdL_law_212.2.2.2.2.2.2.2.2.2.1
theorem dL_law_222 : decode cL_law 222 = .ok (.iload_n 3, 1) := gdL_law_212.2.2.2.2.2.2.2.2.2.2.1
theorem dL_law_223 : decode cL_law 223 = .ok (.iconst 5, 1) := gdL_law_212.2.2.2.2.2.2.2.2.2.2.2
theorem gdL_law_224 : decode cL_law 224 = .ok (.iadd, 1) ∧ decode cL_law 225 = .ok (.iaload, 1) ∧ decode cL_law 226 = .ok (.invokevirtual 13, 3) := by decide +kernel
theorem dL_law_224 : decode cL_law 224 = .ok (.iadd, 1) := gdL_law_224.1
theorem dL_law_225 : decode cL_law 225 = .ok (.iaload, 1) := gdL_law_224.2.1
theorem dL_law_226 : decode cL_law 226 = .ok (.invokevirtual 13, 3) := gdL_law_224.2.2
theorem k_L_13 : xV RL RX11 13 yX11_feed cX11_feed 6 (some .int) 5 := ⟨⟨m_701, m_702, m_703, m_130, m_704⟩, rfl, by decide, by decide, by decide +kernel⟩
theorem gdL_law_229 : decode cL_law 229 = .ok (.pop, 1) ∧ decode cL_law 230 = .ok (.aload_n 2, 1) ∧ decode cL_law 231 = .ok (.aload_n 0, 1) ∧ decode cL_law 232 = .ok (.iload_n 3, 1) ∧ decode cL_law 233 = .ok (.iconst 1, 1) ∧ decode cL_law 234 = .ok (.iadd, 1) ∧ decode cL_law 235 = .ok (.iaload, 1) ∧ decode cL_law 236 = .ok (.aload_n 0, 1) ∧ decode cL_law 237 = .ok (.iload_n 3, 1) ∧ decode cL_law 238 = .ok (.iconst 2, 1) ∧ decode cL_law 239 = .ok (.iadd, 1) ∧ decode cL_law 240 = .ok (.iaload, 1) := by decide +kernel
theorem dL_law_229 : decode cL_law 229 = .ok (.pop, 1) := gdL_law_229.1
theorem dL_law_230 : decode cL_law 230 = .ok (.aload_n 2, 1) := gdL_law_229.2.1
theorem dL_law_231 : decode cL_law 231 = .ok (.aload_n 0, 1) := gdL_law_229.2.2.1
theorem dL_law_232 : decode cL_law 232 = .ok (.iload_n 3, 1) := gdL_law_229.2.2.2.1
theorem dL_law_233 : decode cL_law 233 = .ok (.iconst 1, 1) := gdL_law_229.2.2.2.2.1
theorem dL_law_234 : decode cL_law 234 = .ok (.iadd, 1) := gdL_law_229.2.2.2.2.2.1
theorem dL_law_235 : decode cL_law 235 = .ok (.iaload, 1) := gdL_law_229.2.2.2.2.2.2.1
theorem dL_law_236 : decode cL_law 236 = .ok (.aload_n 0, 1) := gdL_law_229.2.2.2.2.2.2.2.1
theorem dL_law_237 : decode cL_law 237 = .ok (.iload_n 3, 1) := gdL_law_229.2.2.2.2.2.2.2.2.1
theorem dL_law_238 : decode cL_law 238 = .ok (.iconst 2, 1) := gdL_law_229.2.2.2.2.2.2.2.2.2.1
theorem dL_law_239 : decode cL_law 239 = .ok (.iadd, 1) := gdL_law_229.2.2.2.2.2.2.2.2.2.2.1
theorem dL_law_240 : decode cL_law 240 = .ok (.iaload, 1) := gdL_law_229.2.2.2.2.2.2.2.2.2.2.2
theorem gdL_law_241 : decode cL_law 241 = .ok (.aload_n 0, 1) ∧ decode cL_law 242 = .ok (.iload_n 3, 1) ∧ decode cL_law 243 = .ok (.iconst 3, 1) ∧ decode cL_law 244 = .ok (.iadd, 1) ∧ decode cL_law 245 = .ok (.iaload, 1) ∧ decode cL_law 246 = .ok (.aload_n 0, 1) ∧ decode cL_law 247 = .ok (.iload_n 3, 1) ∧ decode cL_law 248 = .ok (.iconst 4, 1) ∧ decode cL_law 249 = .ok (.iadd, 1) ∧ decode cL_law 250 = .ok (.iaload, 1) ∧ decode cL_law 251 = .ok (.aload_n 0, 1) ∧ decode cL_law 252 = .ok (.iload_n 3, 1) := by decide +kernel
theorem dL_law_241 : decode cL_law 241 = .ok (.aload_n 0, 1) := gdL_law_241.1
theorem dL_law_242 : decode cL_law 242 = .ok (.iload_n 3, 1) := gdL_law_241.2.1
theorem dL_law_243 : decode cL_law 243 = .ok (.iconst 3, 1) := gdL_law_241.2.2.1
theorem dL_law_244 : decode cL_law 244 = .ok (.iadd, 1) := gdL_law_241.2.2.2.1
theorem dL_law_245 : decode cL_law 245 = .ok (.iaload, 1) := gdL_law_241.2.2.2.2.1
theorem dL_law_246 : decode cL_law 246 = .ok (.aload_n 0, 1) := gdL_law_241.2.2.2.2.2.1
theorem dL_law_247 : decode cL_law 247 = .ok (.iload_n 3, 1) := gdL_law_241.2.2.2.2.2.2.1
theorem dL_law_248 : decode cL_law 248 = .ok (.iconst 4, 1) := gdL_law_241.2.2.2.2.2.2.2.1
theorem dL_law_249 : decode cL_law 249 = .ok (.iadd, 1) := gdL_law_241.2.2.2.2.2.2.2.2.1
theorem dL_law_250 : decode cL_law 250 = .ok (.iaload, 1) := gdL_law_241.2.2.2.2.2.2.2.2.2.1
theorem dL_law_251 : decode cL_law 251 = .ok (.aload_n 0, 1) := gdL_law_241.2.2.2.2.2.2.2.2.2.2.1
theorem dL_law_252 : decode cL_law 252 = .ok (.iload_n 3, 1) := gdL_law_241.2.2.2.2.2.2.2.2.2.2.2
theorem gdL_law_253 : decode cL_law 253 = .ok (.iconst 5, 1) ∧ decode cL_law 254 = .ok (.iadd, 1) ∧ decode cL_law 255 = .ok (.iaload, 1) ∧ decode cL_law 256 = .ok (.invokevirtual 17, 3) := by decide +kernel
theorem dL_law_253 : decode cL_law 253 = .ok (.iconst 5, 1) := gdL_law_253.1
theorem dL_law_254 : decode cL_law 254 = .ok (.iadd, 1) := gdL_law_253.2.1
theorem dL_law_255 : decode cL_law 255 = .ok (.iaload, 1) := gdL_law_253.2.2.1
theorem dL_law_256 : decode cL_law 256 = .ok (.invokevirtual 17, 3) := gdL_law_253.2.2.2
theorem k_L_17 : xV RL RX12 17 yX12_feed cX12_feed 6 (some .int) 5 := ⟨⟨m_1682, m_1683, m_1684, m_146, m_1685⟩, rfl, by decide, by decide, by decide +kernel⟩
theorem dL_law_259 : decode cL_law 259 = .ok (.pop, 1) := by decide +kernel
theorem dL_law_260 : decode cL_law 260 = .ok (.goto 984, 3) := by decide +kernel
set_option maxHeartbeats 4000000 in
set_option maxRecDepth 100000 in
theorem lc_feed {p : Program} {e : Env} {s : State} {m : MethodId} {below : List Frame} {meth : Method} {c : Code} (l : Launch) {D : va_G} {cy : Nat → ClassId} {A : Nat → Prop} {b L : Nat} {xs : Nat → Int32} (hL : L ≤ 3072) (C : lwC p s m meth c b L xs D cy A) {adK adV : Nat → Nat} (hE : EV adK adV A s) (x0 m0 : Nat) {i : Nat} (hi : i + 6 ≤ L) (hk : lwW p l e s m below meth c b D cy A x0 m0 i 1244) : lwW p l e s m below meth c b D cy A x0 m0 i 200 := by
  obtain ⟨hx, hb, hr, hml, hown, hg, hlocks, hX, hbl, hK, hA, hAr, hbA⟩ := C
  intro u v H locs ls hu hv hT hP hD hS hl
  refine lv_aload_n hx hb dL_law_200 rfl (lv_at hl 2 rfl) ?_
  refine lv_aload_n hx hb dL_law_201 rfl (lv_at hl 3 rfl) ?_
  refine lv_iload_n hx hb dL_law_202 rfl (lv_at hl 0 rfl) ?_
  refine lv_iconst (v := 1) hx hb dL_law_203 (by decide) ?_
  refine lv_iadd hx hb dL_law_204 ?_
  refine lv_topi (fun y_1 hy_1 => ?_)
  obtain rfl : y_1 = nI (i + 1) := hy_1.trans (nI_add i 1)
  refine va_sld hx hb hX hbl hbA hS (vp_in_nI (by omega) (by omega)) dL_law_205 ?_
  refine lv_aload_n hx hb dL_law_206 rfl (lv_at hl 3 rfl) ?_
  refine lv_iload_n hx hb dL_law_207 rfl (lv_at hl 0 rfl) ?_
  refine lv_iconst (v := 2) hx hb dL_law_208 (by decide) ?_
  refine lv_iadd hx hb dL_law_209 ?_
  refine lv_topi (fun y_2 hy_2 => ?_)
  obtain rfl : y_2 = nI (i + 2) := hy_2.trans (nI_add i 2)
  refine va_sld hx hb hX hbl hbA hS (vp_in_nI (by omega) (by omega)) dL_law_210 ?_
  refine lv_aload_n hx hb dL_law_211 rfl (lv_at hl 3 rfl) ?_
  refine lv_iload_n hx hb dL_law_212 rfl (lv_at hl 0 rfl) ?_
  refine lv_iconst (v := 3) hx hb dL_law_213 (by decide) ?_
  refine lv_iadd hx hb dL_law_214 ?_
  refine lv_topi (fun y_3 hy_3 => ?_)
  obtain rfl : y_3 = nI (i + 3) := hy_3.trans (nI_add i 3)
  refine va_sld hx hb hX hbl hbA hS (vp_in_nI (by omega) (by omega)) dL_law_215 ?_
  refine lv_aload_n hx hb dL_law_216 rfl (lv_at hl 3 rfl) ?_
  refine lv_iload_n hx hb dL_law_217 rfl (lv_at hl 0 rfl) ?_
  refine lv_iconst (v := 4) hx hb dL_law_218 (by decide) ?_
  refine lv_iadd hx hb dL_law_219 ?_
  refine lv_topi (fun y_4 hy_4 => ?_)
  obtain rfl : y_4 = nI (i + 4) := hy_4.trans (nI_add i 4)
  refine va_sld hx hb hX hbl hbA hS (vp_in_nI (by omega) (by omega)) dL_law_220 ?_
  refine lv_aload_n hx hb dL_law_221 rfl (lv_at hl 3 rfl) ?_
  refine lv_iload_n hx hb dL_law_222 rfl (lv_at hl 0 rfl) ?_
  refine lv_iconst (v := 5) hx hb dL_law_223 (by decide) ?_
  refine lv_iadd hx hb dL_law_224 ?_
  refine lv_topi (fun y_5 hy_5 => ?_)
  obtain rfl : y_5 = nI (i + 5) := hy_5.trans (nI_add i 5)
  refine va_sld hx hb hX hbl hbA hS (vp_in_nI (by omega) (by omega)) dL_law_225 ?_
  refine x_callVi (q := (RX11, TX11, 14)) (ci := 11) (q0 := 0) (wr := IM cy m0 v) (rest := []) ⟨hx, hb, hml, hown, hg, hl.1⟩ k_L_13 (tx_feed l D cy x0 u hu (xs (nI (i + 1) : Int32).toNatClampNeg) (xs (nI (i + 2) : Int32).toNatClampNeg) (xs (nI (i + 3) : Int32).toNatClampNeg) (xs (nI (i + 4) : Int32).toNatClampNeg) (xs (nI (i + 5) : Int32).toNatClampNeg)) E0_blind hK hP hD hS hA [0, 1, 2, 3, 4, 5, 6, 7, 8, 9, 10, 11, 12, 13, 14, 15, 16, 17, 18, 19, 20, 21, 22, 23, 24, 25, 26, 27, 28, 29, 30, 31, 32, 33, 34, 35, 36, 37, 38, 39, 40, 41, 42, 43, 44, 45, 46, 47, 48, 49, 50, 51, 52, 53, 54, 55, 56, 57, 58, 59, 60, 61, 62, 63, 64, 65, 66, 67, 68, 69, 70, 71, 72, 73, 74, 75, 76, 77, 78, 79, 80, 81, 82, 83, 84, 85, 86, 87, 88, 89, 90, 91, 92, 93] [94, 95, 96, 97, 98, 99, 100, 101, 102, 103, 104, 105, 106, 107, 108, 109, 110, 111, 112, 113, 114, 115, 116, 117, 118, 119, 120, 121, 122, 123, 124, 125, 126, 127, 128, 129, 130, 131, 132, 133, 134, 135, 136, 137, 138, 139, 140, 141] (cutX cy x0 m0 u v) rfl rfl (fun _ _ _ => trivial) dL_law_226 rfl rfl (Nat.le_of_ble_eq_true rfl) ⟨Nat.le_of_ble_eq_true rfl, Nat.le_of_ble_eq_true rfl⟩ ⟨Nat.le_of_ble_eq_true rfl, Nat.le_of_ble_eq_true rfl⟩ (fun r1 u2 H locs hw1 hP9 hD9 hS9 => ?_)
  clear hP hD hS
  have hP := hP9
  have hD := hD9
  have hS := hS9
  clear hP9 hD9 hS9
  refine W.widen (k := 142) (n := 14416) (Nat.le_of_ble_eq_true rfl) (Nat.le_of_ble_eq_true rfl) ?_
  refine lv_pop hx hb dL_law_229 rfl ?_
  refine lv_aload_n hx hb dL_law_230 rfl (lv_at hl 1 rfl) ?_
  refine lv_aload_n hx hb dL_law_231 rfl (lv_at hl 3 rfl) ?_
  refine lv_iload_n hx hb dL_law_232 rfl (lv_at hl 0 rfl) ?_
  refine lv_iconst (v := 1) hx hb dL_law_233 (by decide) ?_
  refine lv_iadd hx hb dL_law_234 ?_
  refine lv_topi (fun y_6 hy_6 => ?_)
  obtain rfl : y_6 = nI (i + 1) := hy_6.trans (nI_add i 1)
  refine va_sld hx hb hX hbl hbA hS (vp_in_nI (by omega) (by omega)) dL_law_235 ?_
  refine lv_aload_n hx hb dL_law_236 rfl (lv_at hl 3 rfl) ?_
  refine lv_iload_n hx hb dL_law_237 rfl (lv_at hl 0 rfl) ?_
  refine lv_iconst (v := 2) hx hb dL_law_238 (by decide) ?_
  refine lv_iadd hx hb dL_law_239 ?_
  refine lv_topi (fun y_7 hy_7 => ?_)
  obtain rfl : y_7 = nI (i + 2) := hy_7.trans (nI_add i 2)
  refine va_sld hx hb hX hbl hbA hS (vp_in_nI (by omega) (by omega)) dL_law_240 ?_
  refine lv_aload_n hx hb dL_law_241 rfl (lv_at hl 3 rfl) ?_
  refine lv_iload_n hx hb dL_law_242 rfl (lv_at hl 0 rfl) ?_
  refine lv_iconst (v := 3) hx hb dL_law_243 (by decide) ?_
  refine lv_iadd hx hb dL_law_244 ?_
  refine lv_topi (fun y_8 hy_8 => ?_)
  obtain rfl : y_8 = nI (i + 3) := hy_8.trans (nI_add i 3)
  refine va_sld hx hb hX hbl hbA hS (vp_in_nI (by omega) (by omega)) dL_law_245 ?_
  refine lv_aload_n hx hb dL_law_246 rfl (lv_at hl 3 rfl) ?_
  refine lv_iload_n hx hb dL_law_247 rfl (lv_at hl 0 rfl) ?_
  refine lv_iconst (v := 4) hx hb dL_law_248 (by decide) ?_
  refine lv_iadd hx hb dL_law_249 ?_
  refine lv_topi (fun y_9 hy_9 => ?_)
  obtain rfl : y_9 = nI (i + 4) := hy_9.trans (nI_add i 4)
  refine va_sld hx hb hX hbl hbA hS (vp_in_nI (by omega) (by omega)) dL_law_250 ?_
  refine lv_aload_n hx hb dL_law_251 rfl (lv_at hl 3 rfl) ?_
  refine lv_iload_n hx hb dL_law_252 rfl (lv_at hl 0 rfl) ?_
  refine lv_iconst (v := 5) hx hb dL_law_253 (by decide) ?_
  refine lv_iadd hx hb dL_law_254 ?_
  refine lv_topi (fun y_10 hy_10 => ?_)
  obtain rfl : y_10 = nI (i + 5) := hy_10.trans (nI_add i 5)
  refine va_sld hx hb hX hbl hbA hS (vp_in_nI (by omega) (by omega)) dL_law_255 ?_
  refine x_callVi (q := (RX12, TX12, 89)) (ci := 12) (q0 := 0) (wr := IX cy x0 u2) (rest := []) ⟨hx, hb, hml, hown, hg, hl.1⟩ k_L_17 (tm_feed l D cy m0 v hv (xs (nI (i + 1) : Int32).toNatClampNeg) (xs (nI (i + 2) : Int32).toNatClampNeg) (xs (nI (i + 3) : Int32).toNatClampNeg) (xs (nI (i + 4) : Int32).toNatClampNeg) (xs (nI (i + 5) : Int32).toNatClampNeg)) E0_blind hK hP hD hS hA [0, 1, 2, 3, 4, 5, 6, 7, 8, 9, 10, 11, 12, 13, 14, 15, 16, 17, 18, 19, 20, 21, 22, 23, 24, 25, 26, 27, 28, 29, 30, 31, 32, 33, 34, 35, 36, 37, 38, 39, 40, 41, 42, 43, 44, 45, 46, 47] [48, 49, 50, 51, 52, 53, 54, 55, 56, 57, 58, 59, 60, 61, 62, 63, 64, 65, 66, 67, 68, 69, 70, 71, 72, 73, 74, 75, 76, 77, 78, 79, 80, 81, 82, 83, 84, 85, 86, 87, 88, 89, 90, 91, 92, 93, 94, 95, 96, 97, 98, 99, 100, 101, 102, 103, 104, 105, 106, 107, 108, 109, 110, 111, 112, 113, 114, 115, 116, 117, 118, 119, 120, 121, 122, 123, 124, 125, 126, 127, 128, 129, 130, 131, 132, 133, 134, 135, 136, 137, 138, 139, 140, 141] (cutM cy x0 m0 u2 v) rfl rfl (fun _ _ _ => trivial) dL_law_256 rfl rfl (Nat.le_of_ble_eq_true rfl) ⟨Nat.le_of_ble_eq_true rfl, Nat.le_of_ble_eq_true rfl⟩ ⟨Nat.le_of_ble_eq_true rfl, Nat.le_of_ble_eq_true rfl⟩ (fun r2 v2 H locs hw2 hP9 hD9 hS9 => ?_)
  clear hP hD hS
  have hP := hP9
  have hD := hD9
  have hS := hS9
  clear hP9 hD9 hS9
  refine W.widen (k := 142) (n := 14416) (Nat.le_of_ble_eq_true rfl) (Nat.le_of_ble_eq_true rfl) ?_
  refine lv_pop hx hb dL_law_259 rfl ?_
  refine lv_goto (tgt := 1244) hx hb dL_law_260 (by decide) ?_
  exact hk u2 v2 H locs ls hw1.1 hw2.1 ⟨(sm_feed hT.1 hw1.2.1 hw2.2.1).2, RH_eq hT.2.1 hw1.2.2.1 hw2.2.2.1, RS_eq hT.2.2.1 hw1.2.1.2.1 hw1.2.2.2.1 hw2.2.2.2.1, RMt_of hw1.2.2.2.2.2 hw2.2.2.2.2.2 hT.2.2.2⟩ hP hD hS hl
theorem gdL_law_263 : decode cL_law 263 = .ok (.aload_n 1, 1) ∧ decode cL_law 264 = .ok (.aload_n 0, 1) ∧ decode cL_law 265 = .ok (.iload_n 3, 1) ∧ decode cL_law 266 = .ok (.iconst 1, 1) ∧ decode cL_law 267 = .ok (.iadd, 1) ∧ decode cL_law 268 = .ok (.iaload, 1) ∧ decode cL_law 269 = .ok (.invokevirtual 18, 3) := by decide +kernel
theorem dL_law_263 : decode cL_law 263 = .ok (.aload_n 1, 1) := gdL_law_263.1
theorem dL_law_264 : decode cL_law 264 = .ok (.aload_n 0, 1) := gdL_law_263.2.1
theorem dL_law_265 : decode cL_law 265 = .ok (.iload_n 3, 1) := gdL_law_263.2.2.1
theorem dL_law_266 : decode cL_law 266 = .ok (.iconst 1, 1) := gdL_law_263.2.2.2.1
theorem dL_law_267 : decode cL_law 267 = .ok (.iadd, 1) := gdL_law_263.2.2.2.2.1
theorem dL_law_268 : decode cL_law 268 = .ok (.iaload, 1) := gdL_law_263.2.2.2.2.2.1
theorem dL_law_269 : decode cL_law 269 = .ok (.invokevirtual 18, 3) := gdL_law_263.2.2.2.2.2.2
theorem k_L_18 : xV RL RX11 18 yX11_end cX11_end 2 (some .int) 1 := ⟨⟨m_709, m_710, m_711, m_130, m_712⟩, rfl, by decide, by decide, by decide +kernel⟩
theorem gdL_law_272 : decode cL_law 272 = .ok (.pop, 1) ∧ decode cL_law 273 = .ok (.aload_n 2, 1) ∧ decode cL_law 274 = .ok (.aload_n 0, 1) ∧ decode cL_law 275 = .ok (.iload_n 3, 1) ∧ decode cL_law 276 = .ok (.iconst 1, 1) ∧ decode cL_law 277 = .ok (.iadd, 1) ∧ decode cL_law 278 = .ok (.iaload, 1) ∧ decode cL_law 279 = .ok (.invokevirtual 22, 3) := by decide +kernel
theorem dL_law_272 : decode cL_law 272 = .ok (.pop, 1) := gdL_law_272.1
theorem dL_law_273 : decode cL_law 273 = .ok (.aload_n 2, 1) := gdL_law_272.2.1
theorem dL_law_274 : decode cL_law 274 = .ok (.aload_n 0, 1) := gdL_law_272.2.2.1
theorem dL_law_275 : decode cL_law 275 = .ok (.iload_n 3, 1) := gdL_law_272.2.2.2.1
theorem dL_law_276 : decode cL_law 276 = .ok (.iconst 1, 1) := gdL_law_272.2.2.2.2.1
theorem dL_law_277 : decode cL_law 277 = .ok (.iadd, 1) := gdL_law_272.2.2.2.2.2.1
theorem dL_law_278 : decode cL_law 278 = .ok (.iaload, 1) := gdL_law_272.2.2.2.2.2.2.1
theorem dL_law_279 : decode cL_law 279 = .ok (.invokevirtual 22, 3) := gdL_law_272.2.2.2.2.2.2.2
theorem k_L_22 : xV RL RX12 22 yX12_end cX12_end 2 (some .int) 1 := ⟨⟨m_1690, m_1691, m_1692, m_146, m_1693⟩, rfl, by decide, by decide, by decide +kernel⟩
theorem dL_law_282 : decode cL_law 282 = .ok (.pop, 1) := by decide +kernel
theorem dL_law_283 : decode cL_law 283 = .ok (.goto 961, 3) := by decide +kernel
set_option maxHeartbeats 4000000 in
set_option maxRecDepth 100000 in
theorem lc_end {p : Program} {e : Env} {s : State} {m : MethodId} {below : List Frame} {meth : Method} {c : Code} (l : Launch) {D : va_G} {cy : Nat → ClassId} {A : Nat → Prop} {b L : Nat} {xs : Nat → Int32} (hL : L ≤ 3072) (C : lwC p s m meth c b L xs D cy A) {adK adV : Nat → Nat} (hE : EV adK adV A s) (x0 m0 : Nat) {i : Nat} (hi : i + 6 ≤ L) (hk : lwW p l e s m below meth c b D cy A x0 m0 i 1244) : lwW p l e s m below meth c b D cy A x0 m0 i 263 := by
  obtain ⟨hx, hb, hr, hml, hown, hg, hlocks, hX, hbl, hK, hA, hAr, hbA⟩ := C
  intro u v H locs ls hu hv hT hP hD hS hl
  refine lv_aload_n hx hb dL_law_263 rfl (lv_at hl 2 rfl) ?_
  refine lv_aload_n hx hb dL_law_264 rfl (lv_at hl 3 rfl) ?_
  refine lv_iload_n hx hb dL_law_265 rfl (lv_at hl 0 rfl) ?_
  refine lv_iconst (v := 1) hx hb dL_law_266 (by decide) ?_
  refine lv_iadd hx hb dL_law_267 ?_
  refine lv_topi (fun y_1 hy_1 => ?_)
  obtain rfl : y_1 = nI (i + 1) := hy_1.trans (nI_add i 1)
  refine va_sld hx hb hX hbl hbA hS (vp_in_nI (by omega) (by omega)) dL_law_268 ?_
  refine x_callVi (q := (RX11, TX11, 14)) (ci := 11) (q0 := 0) (wr := IM cy m0 v) (rest := []) ⟨hx, hb, hml, hown, hg, hl.1⟩ k_L_18 (tx_end l D cy x0 u hu (xs (nI (i + 1) : Int32).toNatClampNeg)) E0_blind hK hP hD hS hA [0, 1, 2, 3, 4, 5, 6, 7, 8, 9, 10, 11, 12, 13, 14, 15, 16, 17, 18, 19, 20, 21, 22, 23, 24, 25, 26, 27, 28, 29, 30, 31, 32, 33, 34, 35, 36, 37, 38, 39, 40, 41, 42, 43, 44, 45, 46, 47, 48, 49, 50, 51, 52, 53, 54, 55, 56, 57, 58, 59, 60, 61, 62, 63, 64, 65, 66, 67, 68, 69, 70, 71, 72, 73, 74, 75, 76, 77, 78, 79, 80, 81, 82, 83, 84, 85, 86, 87, 88, 89, 90, 91, 92, 93] [94, 95, 96, 97, 98, 99, 100, 101, 102, 103, 104, 105, 106, 107, 108, 109, 110, 111, 112, 113, 114, 115, 116, 117, 118, 119, 120, 121, 122, 123, 124, 125, 126, 127, 128, 129, 130, 131, 132, 133, 134, 135, 136, 137, 138, 139, 140, 141] (cutX cy x0 m0 u v) rfl rfl (fun _ _ _ => trivial) dL_law_269 rfl rfl (Nat.le_of_ble_eq_true rfl) ⟨Nat.le_of_ble_eq_true rfl, Nat.le_of_ble_eq_true rfl⟩ ⟨Nat.le_of_ble_eq_true rfl, Nat.le_of_ble_eq_true rfl⟩ (fun r1 u2 H locs hw1 hP9 hD9 hS9 => ?_)
  clear hP hD hS
  have hP := hP9
  have hD := hD9
  have hS := hS9
  clear hP9 hD9 hS9
  refine W.widen (k := 142) (n := 14416) (Nat.le_of_ble_eq_true rfl) (Nat.le_of_ble_eq_true rfl) ?_
  refine lv_pop hx hb dL_law_272 rfl ?_
  refine lv_aload_n hx hb dL_law_273 rfl (lv_at hl 1 rfl) ?_
  refine lv_aload_n hx hb dL_law_274 rfl (lv_at hl 3 rfl) ?_
  refine lv_iload_n hx hb dL_law_275 rfl (lv_at hl 0 rfl) ?_
  refine lv_iconst (v := 1) hx hb dL_law_276 (by decide) ?_
  refine lv_iadd hx hb dL_law_277 ?_
  refine lv_topi (fun y_2 hy_2 => ?_)
  obtain rfl : y_2 = nI (i + 1) := hy_2.trans (nI_add i 1)
  refine va_sld hx hb hX hbl hbA hS (vp_in_nI (by omega) (by omega)) dL_law_278 ?_
  refine x_callVi (q := (RX12, TX12, 89)) (ci := 12) (q0 := 0) (wr := IX cy x0 u2) (rest := []) ⟨hx, hb, hml, hown, hg, hl.1⟩ k_L_22 (tm_end l D cy m0 v hv (xs (nI (i + 1) : Int32).toNatClampNeg)) E0_blind hK hP hD hS hA [0, 1, 2, 3, 4, 5, 6, 7, 8, 9, 10, 11, 12, 13, 14, 15, 16, 17, 18, 19, 20, 21, 22, 23, 24, 25, 26, 27, 28, 29, 30, 31, 32, 33, 34, 35, 36, 37, 38, 39, 40, 41, 42, 43, 44, 45, 46, 47] [48, 49, 50, 51, 52, 53, 54, 55, 56, 57, 58, 59, 60, 61, 62, 63, 64, 65, 66, 67, 68, 69, 70, 71, 72, 73, 74, 75, 76, 77, 78, 79, 80, 81, 82, 83, 84, 85, 86, 87, 88, 89, 90, 91, 92, 93, 94, 95, 96, 97, 98, 99, 100, 101, 102, 103, 104, 105, 106, 107, 108, 109, 110, 111, 112, 113, 114, 115, 116, 117, 118, 119, 120, 121, 122, 123, 124, 125, 126, 127, 128, 129, 130, 131, 132, 133, 134, 135, 136, 137, 138, 139, 140, 141] (cutM cy x0 m0 u2 v) rfl rfl (fun _ _ _ => trivial) dL_law_279 rfl rfl (Nat.le_of_ble_eq_true rfl) ⟨Nat.le_of_ble_eq_true rfl, Nat.le_of_ble_eq_true rfl⟩ ⟨Nat.le_of_ble_eq_true rfl, Nat.le_of_ble_eq_true rfl⟩ (fun r2 v2 H locs hw2 hP9 hD9 hS9 => ?_)
  clear hP hD hS
  have hP := hP9
  have hD := hD9
  have hS := hS9
  clear hP9 hD9 hS9
  refine W.widen (k := 142) (n := 14416) (Nat.le_of_ble_eq_true rfl) (Nat.le_of_ble_eq_true rfl) ?_
  refine lv_pop hx hb dL_law_282 rfl ?_
  refine lv_goto (tgt := 1244) hx hb dL_law_283 (by decide) ?_
  exact hk u2 v2 H locs ls hw1.1 hw2.1 ⟨(sm_end hu.1 hT.1 hw1.2.1 hw2.2.1).2, RH_eq hT.2.1 hw1.2.2.1 hw2.2.2.1, RS_eq hT.2.2.1 hw1.2.1.2.1 hw1.2.2.2.1 hw2.2.2.2.1, RMt_of hw1.2.2.2.2.2 hw2.2.2.2.2.2 hT.2.2.2⟩ hP hD hS hl
theorem dL_law_286 : decode cL_law 286 = .ok (.aload_n 1, 1) := by decide +kernel
theorem dL_law_287 : decode cL_law 287 = .ok (.invokevirtual 23, 3) := by decide +kernel
theorem k_L_23 : xV RL RX11 23 yX11_hills cX11_hills 3 (some .int) 0 := ⟨⟨m_713, m_714, m_715, m_130, m_716⟩, rfl, by decide, by decide, by decide +kernel⟩
theorem gdL_law_290 : decode cL_law 290 = .ok (.pop, 1) ∧ decode cL_law 291 = .ok (.aload_n 2, 1) ∧ decode cL_law 292 = .ok (.invokevirtual 27, 3) := by decide +kernel
theorem dL_law_290 : decode cL_law 290 = .ok (.pop, 1) := gdL_law_290.1
theorem dL_law_291 : decode cL_law 291 = .ok (.aload_n 2, 1) := gdL_law_290.2.1
theorem dL_law_292 : decode cL_law 292 = .ok (.invokevirtual 27, 3) := gdL_law_290.2.2
theorem k_L_27 : xV RL RX12 27 yX12_hills cX12_hills 3 (some .int) 0 := ⟨⟨m_1694, m_1695, m_1696, m_146, m_1697⟩, rfl, by decide, by decide, by decide +kernel⟩
theorem dL_law_295 : decode cL_law 295 = .ok (.pop, 1) := by decide +kernel
theorem dL_law_296 : decode cL_law 296 = .ok (.goto 948, 3) := by decide +kernel
set_option maxHeartbeats 4000000 in
set_option maxRecDepth 100000 in
theorem lc_hills {p : Program} {e : Env} {s : State} {m : MethodId} {below : List Frame} {meth : Method} {c : Code} (l : Launch) {D : va_G} {cy : Nat → ClassId} {A : Nat → Prop} {b L : Nat} {xs : Nat → Int32} (hL : L ≤ 3072) (C : lwC p s m meth c b L xs D cy A) {adK adV : Nat → Nat} (hE : EV adK adV A s) (x0 m0 : Nat) {i : Nat} (hi : i + 6 ≤ L) (hk : lwW p l e s m below meth c b D cy A x0 m0 i 1244) : lwW p l e s m below meth c b D cy A x0 m0 i 286 := by
  obtain ⟨hx, hb, hr, hml, hown, hg, hlocks, hX, hbl, hK, hA, hAr, hbA⟩ := C
  intro u v H locs ls hu hv hT hP hD hS hl
  refine lv_aload_n hx hb dL_law_286 rfl (lv_at hl 2 rfl) ?_
  refine x_callVi (q := (RX11, TX11, 14)) (ci := 11) (q0 := 0) (wr := IM cy m0 v) (rest := []) ⟨hx, hb, hml, hown, hg, hl.1⟩ k_L_23 (tx_hills l D cy adK adV x0 u hu ) EV_blind hK hP hD hS hA [0, 1, 2, 3, 4, 5, 6, 7, 8, 9, 10, 11, 12, 13, 14, 15, 16, 17, 18, 19, 20, 21, 22, 23, 24, 25, 26, 27, 28, 29, 30, 31, 32, 33, 34, 35, 36, 37, 38, 39, 40, 41, 42, 43, 44, 45, 46, 47, 48, 49, 50, 51, 52, 53, 54, 55, 56, 57, 58, 59, 60, 61, 62, 63, 64, 65, 66, 67, 68, 69, 70, 71, 72, 73, 74, 75, 76, 77, 78, 79, 80, 81, 82, 83, 84, 85, 86, 87, 88, 89, 90, 91, 92, 93] [94, 95, 96, 97, 98, 99, 100, 101, 102, 103, 104, 105, 106, 107, 108, 109, 110, 111, 112, 113, 114, 115, 116, 117, 118, 119, 120, 121, 122, 123, 124, 125, 126, 127, 128, 129, 130, 131, 132, 133, 134, 135, 136, 137, 138, 139, 140, 141] (cutX cy x0 m0 u v) rfl rfl (fun U hU hW => EV_pass hE hS (va_free hD hS hA [0, 1, 2, 3, 4, 5, 6, 7, 8, 9, 10, 11, 12, 13, 14, 15, 16, 17, 18, 19, 20, 21, 22, 23, 24, 25, 26, 27, 28, 29, 30, 31, 32, 33, 34, 35, 36, 37, 38, 39, 40, 41, 42, 43, 44, 45, 46, 47, 48, 49, 50, 51, 52, 53, 54, 55, 56, 57, 58, 59, 60, 61, 62, 63, 64, 65, 66, 67, 68, 69, 70, 71, 72, 73, 74, 75, 76, 77, 78, 79, 80, 81, 82, 83, 84, 85, 86, 87, 88, 89, 90, 91, 92, 93] (cutX cy x0 m0 u v).1) hU hW) dL_law_287 rfl rfl (Nat.le_of_ble_eq_true rfl) ⟨Nat.le_of_ble_eq_true rfl, Nat.le_of_ble_eq_true rfl⟩ ⟨Nat.le_of_ble_eq_true rfl, Nat.le_of_ble_eq_true rfl⟩ (fun r1 u2 H locs hw1 hP9 hD9 hS9 => ?_)
  clear hP hD hS
  have hP := hP9
  have hD := hD9
  have hS := hS9
  clear hP9 hD9 hS9
  refine W.widen (k := 142) (n := 14416) (Nat.le_of_ble_eq_true rfl) (Nat.le_of_ble_eq_true rfl) ?_
  refine lv_pop hx hb dL_law_290 rfl ?_
  refine lv_aload_n hx hb dL_law_291 rfl (lv_at hl 1 rfl) ?_
  refine x_callVi (q := (RX12, TX12, 89)) (ci := 12) (q0 := 0) (wr := IX cy x0 u2) (rest := []) ⟨hx, hb, hml, hown, hg, hl.1⟩ k_L_27 (tm_hills l D cy m0 v hv ) E0_blind hK hP hD hS hA [0, 1, 2, 3, 4, 5, 6, 7, 8, 9, 10, 11, 12, 13, 14, 15, 16, 17, 18, 19, 20, 21, 22, 23, 24, 25, 26, 27, 28, 29, 30, 31, 32, 33, 34, 35, 36, 37, 38, 39, 40, 41, 42, 43, 44, 45, 46, 47] [48, 49, 50, 51, 52, 53, 54, 55, 56, 57, 58, 59, 60, 61, 62, 63, 64, 65, 66, 67, 68, 69, 70, 71, 72, 73, 74, 75, 76, 77, 78, 79, 80, 81, 82, 83, 84, 85, 86, 87, 88, 89, 90, 91, 92, 93, 94, 95, 96, 97, 98, 99, 100, 101, 102, 103, 104, 105, 106, 107, 108, 109, 110, 111, 112, 113, 114, 115, 116, 117, 118, 119, 120, 121, 122, 123, 124, 125, 126, 127, 128, 129, 130, 131, 132, 133, 134, 135, 136, 137, 138, 139, 140, 141] (cutM cy x0 m0 u2 v) rfl rfl (fun _ _ _ => trivial) dL_law_292 rfl rfl (Nat.le_of_ble_eq_true rfl) ⟨Nat.le_of_ble_eq_true rfl, Nat.le_of_ble_eq_true rfl⟩ ⟨Nat.le_of_ble_eq_true rfl, Nat.le_of_ble_eq_true rfl⟩ (fun r2 v2 H locs hw2 hP9 hD9 hS9 => ?_)
  clear hP hD hS
  have hP := hP9
  have hD := hD9
  have hS := hS9
  clear hP9 hD9 hS9
  refine W.widen (k := 142) (n := 14416) (Nat.le_of_ble_eq_true rfl) (Nat.le_of_ble_eq_true rfl) ?_
  refine lv_pop hx hb dL_law_295 rfl ?_
  refine lv_goto (tgt := 1244) hx hb dL_law_296 (by decide) ?_
  exact hk u2 v2 H locs ls hw1.1 hw2.1 ⟨(sm_hills hT.1 hw1.2.1 hw2.2.1).2, (hl_same hT.1.1 hT.1.2.2.1 hT.2.1 hT.2.2.1 ⟨hw1.1.2.2.1, hw1.1.2.2.2.1, hw1.1.2.2.2.2.1, hw1.1.2.2.2.2.2.1⟩ hw1.2.2.1 hw2.2.2.1).1, RS_eq (hl_same hT.1.1 hT.1.2.2.1 hT.2.1 hT.2.2.1 ⟨hw1.1.2.2.1, hw1.1.2.2.2.1, hw1.1.2.2.2.2.1, hw1.1.2.2.2.2.2.1⟩ hw1.2.2.1 hw2.2.2.1).2 hw1.2.1.2.1 rfl rfl, hm_same (by decide) hT.1.1 hT.1.2.2.1 hw1.1.2.2.2.1 hT.2.2.2 hw1.2.2.2.2.2 hw2.2.2.2.2.2⟩ hP hD hS hl
theorem gdL_law_299 : decode cL_law 299 = .ok (.aload_n 1, 1) ∧ decode cL_law 300 = .ok (.aload_n 0, 1) ∧ decode cL_law 301 = .ok (.iload_n 3, 1) ∧ decode cL_law 302 = .ok (.iconst 1, 1) ∧ decode cL_law 303 = .ok (.iadd, 1) ∧ decode cL_law 304 = .ok (.iaload, 1) ∧ decode cL_law 305 = .ok (.invokevirtual 28, 3) := by decide +kernel
theorem dL_law_299 : decode cL_law 299 = .ok (.aload_n 1, 1) := gdL_law_299.1
theorem dL_law_300 : decode cL_law 300 = .ok (.aload_n 0, 1) := gdL_law_299.2.1
theorem dL_law_301 : decode cL_law 301 = .ok (.iload_n 3, 1) := gdL_law_299.2.2.1
theorem dL_law_302 : decode cL_law 302 = .ok (.iconst 1, 1) := gdL_law_299.2.2.2.1
theorem dL_law_303 : decode cL_law 303 = .ok (.iadd, 1) := gdL_law_299.2.2.2.2.1
theorem dL_law_304 : decode cL_law 304 = .ok (.iaload, 1) := gdL_law_299.2.2.2.2.2.1
theorem dL_law_305 : decode cL_law 305 = .ok (.invokevirtual 28, 3) := gdL_law_299.2.2.2.2.2.2
theorem k_L_28 : xV RL RX11 28 yX11_fault cX11_fault 2 (some .int) 1 := ⟨⟨m_941, m_942, m_943, m_130, m_944⟩, rfl, by decide, by decide, by decide +kernel⟩
theorem gdL_law_308 : decode cL_law 308 = .ok (.pop, 1) ∧ decode cL_law 309 = .ok (.aload_n 2, 1) ∧ decode cL_law 310 = .ok (.aload_n 0, 1) ∧ decode cL_law 311 = .ok (.iload_n 3, 1) ∧ decode cL_law 312 = .ok (.iconst 1, 1) ∧ decode cL_law 313 = .ok (.iadd, 1) ∧ decode cL_law 314 = .ok (.iaload, 1) ∧ decode cL_law 315 = .ok (.invokevirtual 31, 3) := by decide +kernel
theorem dL_law_308 : decode cL_law 308 = .ok (.pop, 1) := gdL_law_308.1
theorem dL_law_309 : decode cL_law 309 = .ok (.aload_n 2, 1) := gdL_law_308.2.1
theorem dL_law_310 : decode cL_law 310 = .ok (.aload_n 0, 1) := gdL_law_308.2.2.1
theorem dL_law_311 : decode cL_law 311 = .ok (.iload_n 3, 1) := gdL_law_308.2.2.2.1
theorem dL_law_312 : decode cL_law 312 = .ok (.iconst 1, 1) := gdL_law_308.2.2.2.2.1
theorem dL_law_313 : decode cL_law 313 = .ok (.iadd, 1) := gdL_law_308.2.2.2.2.2.1
theorem dL_law_314 : decode cL_law 314 = .ok (.iaload, 1) := gdL_law_308.2.2.2.2.2.2.1
theorem dL_law_315 : decode cL_law 315 = .ok (.invokevirtual 31, 3) := gdL_law_308.2.2.2.2.2.2.2
theorem k_L_31 : xV RL RX12 31 yX12_fault cX12_fault 2 (some .int) 1 := ⟨⟨m_1862, m_1863, m_1864, m_146, m_1865⟩, rfl, by decide, by decide, by decide +kernel⟩
theorem dL_law_318 : decode cL_law 318 = .ok (.pop, 1) := by decide +kernel
theorem dL_law_319 : decode cL_law 319 = .ok (.goto 925, 3) := by decide +kernel
set_option maxHeartbeats 4000000 in
set_option maxRecDepth 100000 in
theorem lc_fault {p : Program} {e : Env} {s : State} {m : MethodId} {below : List Frame} {meth : Method} {c : Code} (l : Launch) {D : va_G} {cy : Nat → ClassId} {A : Nat → Prop} {b L : Nat} {xs : Nat → Int32} (hL : L ≤ 3072) (C : lwC p s m meth c b L xs D cy A) {adK adV : Nat → Nat} (hE : EV adK adV A s) (x0 m0 : Nat) {i : Nat} (hi : i + 6 ≤ L) (hk : lwW p l e s m below meth c b D cy A x0 m0 i 1244) : lwW p l e s m below meth c b D cy A x0 m0 i 299 := by
  obtain ⟨hx, hb, hr, hml, hown, hg, hlocks, hX, hbl, hK, hA, hAr, hbA⟩ := C
  intro u v H locs ls hu hv hT hP hD hS hl
  refine lv_aload_n hx hb dL_law_299 rfl (lv_at hl 2 rfl) ?_
  refine lv_aload_n hx hb dL_law_300 rfl (lv_at hl 3 rfl) ?_
  refine lv_iload_n hx hb dL_law_301 rfl (lv_at hl 0 rfl) ?_
  refine lv_iconst (v := 1) hx hb dL_law_302 (by decide) ?_
  refine lv_iadd hx hb dL_law_303 ?_
  refine lv_topi (fun y_1 hy_1 => ?_)
  obtain rfl : y_1 = nI (i + 1) := hy_1.trans (nI_add i 1)
  refine va_sld hx hb hX hbl hbA hS (vp_in_nI (by omega) (by omega)) dL_law_304 ?_
  refine x_callVi (q := (RX11, TX11, 14)) (ci := 11) (q0 := 0) (wr := IM cy m0 v) (rest := []) ⟨hx, hb, hml, hown, hg, hl.1⟩ k_L_28 (tx_fault l D cy x0 u hu (xs (nI (i + 1) : Int32).toNatClampNeg)) E0_blind hK hP hD hS hA [0, 1, 2, 3, 4, 5, 6, 7, 8, 9, 10, 11, 12, 13, 14, 15, 16, 17, 18, 19, 20, 21, 22, 23, 24, 25, 26, 27, 28, 29, 30, 31, 32, 33, 34, 35, 36, 37, 38, 39, 40, 41, 42, 43, 44, 45, 46, 47, 48, 49, 50, 51, 52, 53, 54, 55, 56, 57, 58, 59, 60, 61, 62, 63, 64, 65, 66, 67, 68, 69, 70, 71, 72, 73, 74, 75, 76, 77, 78, 79, 80, 81, 82, 83, 84, 85, 86, 87, 88, 89, 90, 91, 92, 93] [94, 95, 96, 97, 98, 99, 100, 101, 102, 103, 104, 105, 106, 107, 108, 109, 110, 111, 112, 113, 114, 115, 116, 117, 118, 119, 120, 121, 122, 123, 124, 125, 126, 127, 128, 129, 130, 131, 132, 133, 134, 135, 136, 137, 138, 139, 140, 141] (cutX cy x0 m0 u v) rfl rfl (fun _ _ _ => trivial) dL_law_305 rfl rfl (Nat.le_of_ble_eq_true rfl) ⟨Nat.le_of_ble_eq_true rfl, Nat.le_of_ble_eq_true rfl⟩ ⟨Nat.le_of_ble_eq_true rfl, Nat.le_of_ble_eq_true rfl⟩ (fun r1 u2 H locs hw1 hP9 hD9 hS9 => ?_)
  clear hP hD hS
  have hP := hP9
  have hD := hD9
  have hS := hS9
  clear hP9 hD9 hS9
  refine W.widen (k := 142) (n := 14416) (Nat.le_of_ble_eq_true rfl) (Nat.le_of_ble_eq_true rfl) ?_
  refine lv_pop hx hb dL_law_308 rfl ?_
  refine lv_aload_n hx hb dL_law_309 rfl (lv_at hl 1 rfl) ?_
  refine lv_aload_n hx hb dL_law_310 rfl (lv_at hl 3 rfl) ?_
  refine lv_iload_n hx hb dL_law_311 rfl (lv_at hl 0 rfl) ?_
  refine lv_iconst (v := 1) hx hb dL_law_312 (by decide) ?_
  refine lv_iadd hx hb dL_law_313 ?_
  refine lv_topi (fun y_2 hy_2 => ?_)
  obtain rfl : y_2 = nI (i + 1) := hy_2.trans (nI_add i 1)
  refine va_sld hx hb hX hbl hbA hS (vp_in_nI (by omega) (by omega)) dL_law_314 ?_
  refine x_callVi (q := (RX12, TX12, 89)) (ci := 12) (q0 := 0) (wr := IX cy x0 u2) (rest := []) ⟨hx, hb, hml, hown, hg, hl.1⟩ k_L_31 (tm_fault l D cy m0 v hv (xs (nI (i + 1) : Int32).toNatClampNeg)) E0_blind hK hP hD hS hA [0, 1, 2, 3, 4, 5, 6, 7, 8, 9, 10, 11, 12, 13, 14, 15, 16, 17, 18, 19, 20, 21, 22, 23, 24, 25, 26, 27, 28, 29, 30, 31, 32, 33, 34, 35, 36, 37, 38, 39, 40, 41, 42, 43, 44, 45, 46, 47] [48, 49, 50, 51, 52, 53, 54, 55, 56, 57, 58, 59, 60, 61, 62, 63, 64, 65, 66, 67, 68, 69, 70, 71, 72, 73, 74, 75, 76, 77, 78, 79, 80, 81, 82, 83, 84, 85, 86, 87, 88, 89, 90, 91, 92, 93, 94, 95, 96, 97, 98, 99, 100, 101, 102, 103, 104, 105, 106, 107, 108, 109, 110, 111, 112, 113, 114, 115, 116, 117, 118, 119, 120, 121, 122, 123, 124, 125, 126, 127, 128, 129, 130, 131, 132, 133, 134, 135, 136, 137, 138, 139, 140, 141] (cutM cy x0 m0 u2 v) rfl rfl (fun _ _ _ => trivial) dL_law_315 rfl rfl (Nat.le_of_ble_eq_true rfl) ⟨Nat.le_of_ble_eq_true rfl, Nat.le_of_ble_eq_true rfl⟩ ⟨Nat.le_of_ble_eq_true rfl, Nat.le_of_ble_eq_true rfl⟩ (fun r2 v2 H locs hw2 hP9 hD9 hS9 => ?_)
  clear hP hD hS
  have hP := hP9
  have hD := hD9
  have hS := hS9
  clear hP9 hD9 hS9
  refine W.widen (k := 142) (n := 14416) (Nat.le_of_ble_eq_true rfl) (Nat.le_of_ble_eq_true rfl) ?_
  refine lv_pop hx hb dL_law_318 rfl ?_
  refine lv_goto (tgt := 1244) hx hb dL_law_319 (by decide) ?_
  exact hk u2 v2 H locs ls hw1.1 hw2.1 ⟨(sm_fault hT.1 hw1.2.1 hw2.2.1).2, RH_eq hT.2.1 hw1.2.2.1 hw2.2.2.1, RS_eq hT.2.2.1 hw1.2.1.2.1 hw1.2.2.2.1 hw2.2.2.2.1, RMt_of hw1.2.2.2.2.2 hw2.2.2.2.2.2 hT.2.2.2⟩ hP hD hS hl
theorem gdL_law_322 : decode cL_law 322 = .ok (.aload_n 1, 1) ∧ decode cL_law 323 = .ok (.aload_n 0, 1) ∧ decode cL_law 324 = .ok (.iload_n 3, 1) ∧ decode cL_law 325 = .ok (.iconst 1, 1) ∧ decode cL_law 326 = .ok (.iadd, 1) ∧ decode cL_law 327 = .ok (.iaload, 1) ∧ decode cL_law 328 = .ok (.aload_n 0, 1) ∧ decode cL_law 329 = .ok (.iload_n 3, 1) ∧ decode cL_law 330 = .ok (.iconst 2, 1) ∧ decode cL_law 331 = .ok (.iadd, 1) ∧ decode cL_law 332 = .ok (.iaload, 1) ∧ decode cL_law 333 = .ok (.invokevirtual 32, 3) := by decide +kernel
theorem dL_law_322 : decode cL_law 322 = .ok (.aload_n 1, 1) := gdL_law_322.1
theorem dL_law_323 : decode cL_law 323 = .ok (.aload_n 0, 1) := gdL_law_322.2.1
theorem dL_law_324 : decode cL_law 324 = .ok (.iload_n 3, 1) := gdL_law_322.2.2.1
theorem dL_law_325 : decode cL_law 325 = .ok (.iconst 1, 1) := gdL_law_322.2.2.2.1
theorem dL_law_326 : decode cL_law 326 = .ok (.iadd, 1) := gdL_law_322.2.2.2.2.1
theorem dL_law_327 : decode cL_law 327 = .ok (.iaload, 1) := gdL_law_322.2.2.2.2.2.1
theorem dL_law_328 : decode cL_law 328 = .ok (.aload_n 0, 1) := gdL_law_322.2.2.2.2.2.2.1
theorem dL_law_329 : decode cL_law 329 = .ok (.iload_n 3, 1) := gdL_law_322.2.2.2.2.2.2.2.1
theorem dL_law_330 : decode cL_law 330 = .ok (.iconst 2, 1) := gdL_law_322.2.2.2.2.2.2.2.2.1
theorem dL_law_331 : decode cL_law 331 = .ok (.iadd, 1) := gdL_law_322.2.2.2.2.2.2.2.2.2.1
theorem dL_law_332 : decode cL_law 332 = .ok (.iaload, 1) := gdL_law_322.2.2.2.2.2.2.2.2.2.2.1
theorem dL_law_333 : decode cL_law 333 = .ok (.invokevirtual 32, 3) := gdL_law_322.2.2.2.2.2.2.2.2.2.2.2
theorem k_L_32 : xV RL RX11 32 yX11_cliff cX11_cliff 3 (some .int) 2 := ⟨⟨m_945, m_946, m_947, m_130, m_948⟩, rfl, by decide, by decide, by decide +kernel⟩
theorem gdL_law_336 : decode cL_law 336 = .ok (.pop, 1) ∧ decode cL_law 337 = .ok (.aload_n 2, 1) ∧ decode cL_law 338 = .ok (.aload_n 0, 1) ∧ decode cL_law 339 = .ok (.iload_n 3, 1) ∧ decode cL_law 340 = .ok (.iconst 1, 1) ∧ decode cL_law 341 = .ok (.iadd, 1) ∧ decode cL_law 342 = .ok (.iaload, 1) ∧ decode cL_law 343 = .ok (.aload_n 0, 1) ∧ decode cL_law 344 = .ok (.iload_n 3, 1) ∧ decode cL_law 345 = .ok (.iconst 2, 1) ∧ decode cL_law 346 = .ok (.iadd, 1) ∧ decode cL_law 347 = .ok (.iaload, 1) := by decide +kernel
theorem dL_law_336 : decode cL_law 336 = .ok (.pop, 1) := gdL_law_336.1
theorem dL_law_337 : decode cL_law 337 = .ok (.aload_n 2, 1) := gdL_law_336.2.1
theorem dL_law_338 : decode cL_law 338 = .ok (.aload_n 0, 1) := gdL_law_336.2.2.1
theorem dL_law_339 : decode cL_law 339 = .ok (.iload_n 3, 1) := gdL_law_336.2.2.2.1
theorem dL_law_340 : decode cL_law 340 = .ok (.iconst 1, 1) := gdL_law_336.2.2.2.2.1
theorem dL_law_341 : decode cL_law 341 = .ok (.iadd, 1) := gdL_law_336.2.2.2.2.2.1
theorem dL_law_342 : decode cL_law 342 = .ok (.iaload, 1) := gdL_law_336.2.2.2.2.2.2.1
theorem dL_law_343 : decode cL_law 343 = .ok (.aload_n 0, 1) := gdL_law_336.2.2.2.2.2.2.2.1
theorem dL_law_344 : decode cL_law 344 = .ok (.iload_n 3, 1) := gdL_law_336.2.2.2.2.2.2.2.2.1
theorem dL_law_345 : decode cL_law 345 = .ok (.iconst 2, 1) := gdL_law_336.2.2.2.2.2.2.2.2.2.1
theorem dL_law_346 : decode cL_law 346 = .ok (.iadd, 1) := gdL_law_336.2.2.2.2.2.2.2.2.2.2.1
theorem dL_law_347 : decode cL_law 347 = .ok (.iaload, 1) := gdL_law_336.2.2.2.2.2.2.2.2.2.2.2
theorem dL_law_348 : decode cL_law 348 = .ok (.invokevirtual 36, 3) := by decide +kernel
theorem k_L_36 : xV RL RX12 36 yX12_cliff cX12_cliff 3 (some .int) 2 := ⟨⟨m_1866, m_1867, m_1868, m_146, m_1869⟩, rfl, by decide, by decide, by decide +kernel⟩
theorem dL_law_351 : decode cL_law 351 = .ok (.pop, 1) := by decide +kernel
theorem dL_law_352 : decode cL_law 352 = .ok (.goto 892, 3) := by decide +kernel
set_option maxHeartbeats 4000000 in
set_option maxRecDepth 100000 in
theorem lc_cliff {p : Program} {e : Env} {s : State} {m : MethodId} {below : List Frame} {meth : Method} {c : Code} (l : Launch) {D : va_G} {cy : Nat → ClassId} {A : Nat → Prop} {b L : Nat} {xs : Nat → Int32} (hL : L ≤ 3072) (C : lwC p s m meth c b L xs D cy A) {adK adV : Nat → Nat} (hE : EV adK adV A s) (x0 m0 : Nat) {i : Nat} (hi : i + 6 ≤ L) (hk : lwW p l e s m below meth c b D cy A x0 m0 i 1244) : lwW p l e s m below meth c b D cy A x0 m0 i 322 := by
  obtain ⟨hx, hb, hr, hml, hown, hg, hlocks, hX, hbl, hK, hA, hAr, hbA⟩ := C
  intro u v H locs ls hu hv hT hP hD hS hl
  refine lv_aload_n hx hb dL_law_322 rfl (lv_at hl 2 rfl) ?_
  refine lv_aload_n hx hb dL_law_323 rfl (lv_at hl 3 rfl) ?_
  refine lv_iload_n hx hb dL_law_324 rfl (lv_at hl 0 rfl) ?_
  refine lv_iconst (v := 1) hx hb dL_law_325 (by decide) ?_
  refine lv_iadd hx hb dL_law_326 ?_
  refine lv_topi (fun y_1 hy_1 => ?_)
  obtain rfl : y_1 = nI (i + 1) := hy_1.trans (nI_add i 1)
  refine va_sld hx hb hX hbl hbA hS (vp_in_nI (by omega) (by omega)) dL_law_327 ?_
  refine lv_aload_n hx hb dL_law_328 rfl (lv_at hl 3 rfl) ?_
  refine lv_iload_n hx hb dL_law_329 rfl (lv_at hl 0 rfl) ?_
  refine lv_iconst (v := 2) hx hb dL_law_330 (by decide) ?_
  refine lv_iadd hx hb dL_law_331 ?_
  refine lv_topi (fun y_2 hy_2 => ?_)
  obtain rfl : y_2 = nI (i + 2) := hy_2.trans (nI_add i 2)
  refine va_sld hx hb hX hbl hbA hS (vp_in_nI (by omega) (by omega)) dL_law_332 ?_
  refine x_callVi (q := (RX11, TX11, 14)) (ci := 11) (q0 := 0) (wr := IM cy m0 v) (rest := []) ⟨hx, hb, hml, hown, hg, hl.1⟩ k_L_32 (tx_cliff l D cy x0 u hu (xs (nI (i + 1) : Int32).toNatClampNeg) (xs (nI (i + 2) : Int32).toNatClampNeg)) E0_blind hK hP hD hS hA [0, 1, 2, 3, 4, 5, 6, 7, 8, 9, 10, 11, 12, 13, 14, 15, 16, 17, 18, 19, 20, 21, 22, 23, 24, 25, 26, 27, 28, 29, 30, 31, 32, 33, 34, 35, 36, 37, 38, 39, 40, 41, 42, 43, 44, 45, 46, 47, 48, 49, 50, 51, 52, 53, 54, 55, 56, 57, 58, 59, 60, 61, 62, 63, 64, 65, 66, 67, 68, 69, 70, 71, 72, 73, 74, 75, 76, 77, 78, 79, 80, 81, 82, 83, 84, 85, 86, 87, 88, 89, 90, 91, 92, 93] [94, 95, 96, 97, 98, 99, 100, 101, 102, 103, 104, 105, 106, 107, 108, 109, 110, 111, 112, 113, 114, 115, 116, 117, 118, 119, 120, 121, 122, 123, 124, 125, 126, 127, 128, 129, 130, 131, 132, 133, 134, 135, 136, 137, 138, 139, 140, 141] (cutX cy x0 m0 u v) rfl rfl (fun _ _ _ => trivial) dL_law_333 rfl rfl (Nat.le_of_ble_eq_true rfl) ⟨Nat.le_of_ble_eq_true rfl, Nat.le_of_ble_eq_true rfl⟩ ⟨Nat.le_of_ble_eq_true rfl, Nat.le_of_ble_eq_true rfl⟩ (fun r1 u2 H locs hw1 hP9 hD9 hS9 => ?_)
  clear hP hD hS
  have hP := hP9
  have hD := hD9
  have hS := hS9
  clear hP9 hD9 hS9
  refine W.widen (k := 142) (n := 14416) (Nat.le_of_ble_eq_true rfl) (Nat.le_of_ble_eq_true rfl) ?_
  refine lv_pop hx hb dL_law_336 rfl ?_
  refine lv_aload_n hx hb dL_law_337 rfl (lv_at hl 1 rfl) ?_
  refine lv_aload_n hx hb dL_law_338 rfl (lv_at hl 3 rfl) ?_
  refine lv_iload_n hx hb dL_law_339 rfl (lv_at hl 0 rfl) ?_
  refine lv_iconst (v := 1) hx hb dL_law_340 (by decide) ?_
  refine lv_iadd hx hb dL_law_341 ?_
  refine lv_topi (fun y_3 hy_3 => ?_)
  obtain rfl : y_3 = nI (i + 1) := hy_3.trans (nI_add i 1)
  refine va_sld hx hb hX hbl hbA hS (vp_in_nI (by omega) (by omega)) dL_law_342 ?_
  refine lv_aload_n hx hb dL_law_343 rfl (lv_at hl 3 rfl) ?_
  refine lv_iload_n hx hb dL_law_344 rfl (lv_at hl 0 rfl) ?_
  refine lv_iconst (v := 2) hx hb dL_law_345 (by decide) ?_
  refine lv_iadd hx hb dL_law_346 ?_
  refine lv_topi (fun y_4 hy_4 => ?_)
  obtain rfl : y_4 = nI (i + 2) := hy_4.trans (nI_add i 2)
  refine va_sld hx hb hX hbl hbA hS (vp_in_nI (by omega) (by omega)) dL_law_347 ?_
  refine x_callVi (q := (RX12, TX12, 89)) (ci := 12) (q0 := 0) (wr := IX cy x0 u2) (rest := []) ⟨hx, hb, hml, hown, hg, hl.1⟩ k_L_36 (tm_cliff l D cy m0 v hv (xs (nI (i + 1) : Int32).toNatClampNeg) (xs (nI (i + 2) : Int32).toNatClampNeg)) E0_blind hK hP hD hS hA [0, 1, 2, 3, 4, 5, 6, 7, 8, 9, 10, 11, 12, 13, 14, 15, 16, 17, 18, 19, 20, 21, 22, 23, 24, 25, 26, 27, 28, 29, 30, 31, 32, 33, 34, 35, 36, 37, 38, 39, 40, 41, 42, 43, 44, 45, 46, 47] [48, 49, 50, 51, 52, 53, 54, 55, 56, 57, 58, 59, 60, 61, 62, 63, 64, 65, 66, 67, 68, 69, 70, 71, 72, 73, 74, 75, 76, 77, 78, 79, 80, 81, 82, 83, 84, 85, 86, 87, 88, 89, 90, 91, 92, 93, 94, 95, 96, 97, 98, 99, 100, 101, 102, 103, 104, 105, 106, 107, 108, 109, 110, 111, 112, 113, 114, 115, 116, 117, 118, 119, 120, 121, 122, 123, 124, 125, 126, 127, 128, 129, 130, 131, 132, 133, 134, 135, 136, 137, 138, 139, 140, 141] (cutM cy x0 m0 u2 v) rfl rfl (fun _ _ _ => trivial) dL_law_348 rfl rfl (Nat.le_of_ble_eq_true rfl) ⟨Nat.le_of_ble_eq_true rfl, Nat.le_of_ble_eq_true rfl⟩ ⟨Nat.le_of_ble_eq_true rfl, Nat.le_of_ble_eq_true rfl⟩ (fun r2 v2 H locs hw2 hP9 hD9 hS9 => ?_)
  clear hP hD hS
  have hP := hP9
  have hD := hD9
  have hS := hS9
  clear hP9 hD9 hS9
  refine W.widen (k := 142) (n := 14416) (Nat.le_of_ble_eq_true rfl) (Nat.le_of_ble_eq_true rfl) ?_
  refine lv_pop hx hb dL_law_351 rfl ?_
  refine lv_goto (tgt := 1244) hx hb dL_law_352 (by decide) ?_
  exact hk u2 v2 H locs ls hw1.1 hw2.1 ⟨(sm_d hT.1 hw1.2.1 hw2.2.1), RH_eq hT.2.1 hw1.2.2.1 hw2.2.2.1, RS_eq hT.2.2.1 hw1.2.1.2.1 hw1.2.2.2.1 hw2.2.2.2.1, RMt_of hw1.2.2.2.2.2 hw2.2.2.2.2.2 hT.2.2.2⟩ hP hD hS hl
theorem gdL_law_355 : decode cL_law 355 = .ok (.aload_n 1, 1) ∧ decode cL_law 356 = .ok (.aload_n 0, 1) ∧ decode cL_law 357 = .ok (.iload_n 3, 1) ∧ decode cL_law 358 = .ok (.iconst 1, 1) ∧ decode cL_law 359 = .ok (.iadd, 1) ∧ decode cL_law 360 = .ok (.iaload, 1) ∧ decode cL_law 361 = .ok (.aload_n 0, 1) ∧ decode cL_law 362 = .ok (.iload_n 3, 1) ∧ decode cL_law 363 = .ok (.iconst 2, 1) ∧ decode cL_law 364 = .ok (.iadd, 1) ∧ decode cL_law 365 = .ok (.iaload, 1) ∧ decode cL_law 366 = .ok (.invokevirtual 37, 3) := by decide +kernel
theorem dL_law_355 : decode cL_law 355 = .ok (.aload_n 1, 1) := gdL_law_355.1
theorem dL_law_356 : decode cL_law 356 = .ok (.aload_n 0, 1) := gdL_law_355.2.1
theorem dL_law_357 : decode cL_law 357 = .ok (.iload_n 3, 1) := gdL_law_355.2.2.1
theorem dL_law_358 : decode cL_law 358 = .ok (.iconst 1, 1) := gdL_law_355.2.2.2.1
theorem dL_law_359 : decode cL_law 359 = .ok (.iadd, 1) := gdL_law_355.2.2.2.2.1
theorem dL_law_360 : decode cL_law 360 = .ok (.iaload, 1) := gdL_law_355.2.2.2.2.2.1
theorem dL_law_361 : decode cL_law 361 = .ok (.aload_n 0, 1) := gdL_law_355.2.2.2.2.2.2.1
theorem dL_law_362 : decode cL_law 362 = .ok (.iload_n 3, 1) := gdL_law_355.2.2.2.2.2.2.2.1
theorem dL_law_363 : decode cL_law 363 = .ok (.iconst 2, 1) := gdL_law_355.2.2.2.2.2.2.2.2.1
theorem dL_law_364 : decode cL_law 364 = .ok (.iadd, 1) := gdL_law_355.2.2.2.2.2.2.2.2.2.1
theorem dL_law_365 : decode cL_law 365 = .ok (.iaload, 1) := gdL_law_355.2.2.2.2.2.2.2.2.2.2.1
theorem dL_law_366 : decode cL_law 366 = .ok (.invokevirtual 37, 3) := gdL_law_355.2.2.2.2.2.2.2.2.2.2.2
theorem k_L_37 : xV RL RX11 37 yX11_man cX11_man 3 (some .int) 2 := ⟨⟨m_953, m_954, m_955, m_130, m_956⟩, rfl, by decide, by decide, by decide +kernel⟩
theorem gdL_law_369 : decode cL_law 369 = .ok (.pop, 1) ∧ decode cL_law 370 = .ok (.aload_n 2, 1) ∧ decode cL_law 371 = .ok (.aload_n 0, 1) ∧ decode cL_law 372 = .ok (.iload_n 3, 1) ∧ decode cL_law 373 = .ok (.iconst 1, 1) ∧ decode cL_law 374 = .ok (.iadd, 1) ∧ decode cL_law 375 = .ok (.iaload, 1) ∧ decode cL_law 376 = .ok (.aload_n 0, 1) ∧ decode cL_law 377 = .ok (.iload_n 3, 1) ∧ decode cL_law 378 = .ok (.iconst 2, 1) ∧ decode cL_law 379 = .ok (.iadd, 1) ∧ decode cL_law 380 = .ok (.iaload, 1) := by decide +kernel
theorem dL_law_369 : decode cL_law 369 = .ok (.pop, 1) := gdL_law_369.1
theorem dL_law_370 : decode cL_law 370 = .ok (.aload_n 2, 1) := gdL_law_369.2.1
theorem dL_law_371 : decode cL_law 371 = .ok (.aload_n 0, 1) := gdL_law_369.2.2.1
theorem dL_law_372 : decode cL_law 372 = .ok (.iload_n 3, 1) := gdL_law_369.2.2.2.1
theorem dL_law_373 : decode cL_law 373 = .ok (.iconst 1, 1) := gdL_law_369.2.2.2.2.1
theorem dL_law_374 : decode cL_law 374 = .ok (.iadd, 1) := gdL_law_369.2.2.2.2.2.1
theorem dL_law_375 : decode cL_law 375 = .ok (.iaload, 1) := gdL_law_369.2.2.2.2.2.2.1
theorem dL_law_376 : decode cL_law 376 = .ok (.aload_n 0, 1) := gdL_law_369.2.2.2.2.2.2.2.1
theorem dL_law_377 : decode cL_law 377 = .ok (.iload_n 3, 1) := gdL_law_369.2.2.2.2.2.2.2.2.1
theorem dL_law_378 : decode cL_law 378 = .ok (.iconst 2, 1) := gdL_law_369.2.2.2.2.2.2.2.2.2.1
theorem dL_law_379 : decode cL_law 379 = .ok (.iadd, 1) := gdL_law_369.2.2.2.2.2.2.2.2.2.2.1
theorem dL_law_380 : decode cL_law 380 = .ok (.iaload, 1) := gdL_law_369.2.2.2.2.2.2.2.2.2.2.2
theorem dL_law_381 : decode cL_law 381 = .ok (.invokevirtual 40, 3) := by decide +kernel
theorem k_L_40 : xV RL RX12 40 yX12_man cX12_man 3 (some .int) 2 := ⟨⟨m_1877, m_1878, m_1879, m_146, m_1880⟩, rfl, by decide, by decide, by decide +kernel⟩
theorem dL_law_384 : decode cL_law 384 = .ok (.pop, 1) := by decide +kernel
theorem dL_law_385 : decode cL_law 385 = .ok (.goto 859, 3) := by decide +kernel
set_option maxHeartbeats 4000000 in
set_option maxRecDepth 100000 in
theorem lc_man {p : Program} {e : Env} {s : State} {m : MethodId} {below : List Frame} {meth : Method} {c : Code} (l : Launch) {D : va_G} {cy : Nat → ClassId} {A : Nat → Prop} {b L : Nat} {xs : Nat → Int32} (hL : L ≤ 3072) (C : lwC p s m meth c b L xs D cy A) {adK adV : Nat → Nat} (hE : EV adK adV A s) (x0 m0 : Nat) {i : Nat} (hi : i + 6 ≤ L) (hk : lwW p l e s m below meth c b D cy A x0 m0 i 1244) : lwW p l e s m below meth c b D cy A x0 m0 i 355 := by
  obtain ⟨hx, hb, hr, hml, hown, hg, hlocks, hX, hbl, hK, hA, hAr, hbA⟩ := C
  intro u v H locs ls hu hv hT hP hD hS hl
  refine lv_aload_n hx hb dL_law_355 rfl (lv_at hl 2 rfl) ?_
  refine lv_aload_n hx hb dL_law_356 rfl (lv_at hl 3 rfl) ?_
  refine lv_iload_n hx hb dL_law_357 rfl (lv_at hl 0 rfl) ?_
  refine lv_iconst (v := 1) hx hb dL_law_358 (by decide) ?_
  refine lv_iadd hx hb dL_law_359 ?_
  refine lv_topi (fun y_1 hy_1 => ?_)
  obtain rfl : y_1 = nI (i + 1) := hy_1.trans (nI_add i 1)
  refine va_sld hx hb hX hbl hbA hS (vp_in_nI (by omega) (by omega)) dL_law_360 ?_
  refine lv_aload_n hx hb dL_law_361 rfl (lv_at hl 3 rfl) ?_
  refine lv_iload_n hx hb dL_law_362 rfl (lv_at hl 0 rfl) ?_
  refine lv_iconst (v := 2) hx hb dL_law_363 (by decide) ?_
  refine lv_iadd hx hb dL_law_364 ?_
  refine lv_topi (fun y_2 hy_2 => ?_)
  obtain rfl : y_2 = nI (i + 2) := hy_2.trans (nI_add i 2)
  refine va_sld hx hb hX hbl hbA hS (vp_in_nI (by omega) (by omega)) dL_law_365 ?_
  refine x_callVi (q := (RX11, TX11, 14)) (ci := 11) (q0 := 0) (wr := IM cy m0 v) (rest := []) ⟨hx, hb, hml, hown, hg, hl.1⟩ k_L_37 (tx_man l D cy x0 u hu (xs (nI (i + 1) : Int32).toNatClampNeg) (xs (nI (i + 2) : Int32).toNatClampNeg)) E0_blind hK hP hD hS hA [0, 1, 2, 3, 4, 5, 6, 7, 8, 9, 10, 11, 12, 13, 14, 15, 16, 17, 18, 19, 20, 21, 22, 23, 24, 25, 26, 27, 28, 29, 30, 31, 32, 33, 34, 35, 36, 37, 38, 39, 40, 41, 42, 43, 44, 45, 46, 47, 48, 49, 50, 51, 52, 53, 54, 55, 56, 57, 58, 59, 60, 61, 62, 63, 64, 65, 66, 67, 68, 69, 70, 71, 72, 73, 74, 75, 76, 77, 78, 79, 80, 81, 82, 83, 84, 85, 86, 87, 88, 89, 90, 91, 92, 93] [94, 95, 96, 97, 98, 99, 100, 101, 102, 103, 104, 105, 106, 107, 108, 109, 110, 111, 112, 113, 114, 115, 116, 117, 118, 119, 120, 121, 122, 123, 124, 125, 126, 127, 128, 129, 130, 131, 132, 133, 134, 135, 136, 137, 138, 139, 140, 141] (cutX cy x0 m0 u v) rfl rfl (fun _ _ _ => trivial) dL_law_366 rfl rfl (Nat.le_of_ble_eq_true rfl) ⟨Nat.le_of_ble_eq_true rfl, Nat.le_of_ble_eq_true rfl⟩ ⟨Nat.le_of_ble_eq_true rfl, Nat.le_of_ble_eq_true rfl⟩ (fun r1 u2 H locs hw1 hP9 hD9 hS9 => ?_)
  clear hP hD hS
  have hP := hP9
  have hD := hD9
  have hS := hS9
  clear hP9 hD9 hS9
  refine W.widen (k := 142) (n := 14416) (Nat.le_of_ble_eq_true rfl) (Nat.le_of_ble_eq_true rfl) ?_
  refine lv_pop hx hb dL_law_369 rfl ?_
  refine lv_aload_n hx hb dL_law_370 rfl (lv_at hl 1 rfl) ?_
  refine lv_aload_n hx hb dL_law_371 rfl (lv_at hl 3 rfl) ?_
  refine lv_iload_n hx hb dL_law_372 rfl (lv_at hl 0 rfl) ?_
  refine lv_iconst (v := 1) hx hb dL_law_373 (by decide) ?_
  refine lv_iadd hx hb dL_law_374 ?_
  refine lv_topi (fun y_3 hy_3 => ?_)
  obtain rfl : y_3 = nI (i + 1) := hy_3.trans (nI_add i 1)
  refine va_sld hx hb hX hbl hbA hS (vp_in_nI (by omega) (by omega)) dL_law_375 ?_
  refine lv_aload_n hx hb dL_law_376 rfl (lv_at hl 3 rfl) ?_
  refine lv_iload_n hx hb dL_law_377 rfl (lv_at hl 0 rfl) ?_
  refine lv_iconst (v := 2) hx hb dL_law_378 (by decide) ?_
  refine lv_iadd hx hb dL_law_379 ?_
  refine lv_topi (fun y_4 hy_4 => ?_)
  obtain rfl : y_4 = nI (i + 2) := hy_4.trans (nI_add i 2)
  refine va_sld hx hb hX hbl hbA hS (vp_in_nI (by omega) (by omega)) dL_law_380 ?_
  refine x_callVi (q := (RX12, TX12, 89)) (ci := 12) (q0 := 0) (wr := IX cy x0 u2) (rest := []) ⟨hx, hb, hml, hown, hg, hl.1⟩ k_L_40 (tm_man l D cy m0 v hv (xs (nI (i + 1) : Int32).toNatClampNeg) (xs (nI (i + 2) : Int32).toNatClampNeg)) E0_blind hK hP hD hS hA [0, 1, 2, 3, 4, 5, 6, 7, 8, 9, 10, 11, 12, 13, 14, 15, 16, 17, 18, 19, 20, 21, 22, 23, 24, 25, 26, 27, 28, 29, 30, 31, 32, 33, 34, 35, 36, 37, 38, 39, 40, 41, 42, 43, 44, 45, 46, 47] [48, 49, 50, 51, 52, 53, 54, 55, 56, 57, 58, 59, 60, 61, 62, 63, 64, 65, 66, 67, 68, 69, 70, 71, 72, 73, 74, 75, 76, 77, 78, 79, 80, 81, 82, 83, 84, 85, 86, 87, 88, 89, 90, 91, 92, 93, 94, 95, 96, 97, 98, 99, 100, 101, 102, 103, 104, 105, 106, 107, 108, 109, 110, 111, 112, 113, 114, 115, 116, 117, 118, 119, 120, 121, 122, 123, 124, 125, 126, 127, 128, 129, 130, 131, 132, 133, 134, 135, 136, 137, 138, 139, 140, 141] (cutM cy x0 m0 u2 v) rfl rfl (fun _ _ _ => trivial) dL_law_381 rfl rfl (Nat.le_of_ble_eq_true rfl) ⟨Nat.le_of_ble_eq_true rfl, Nat.le_of_ble_eq_true rfl⟩ ⟨Nat.le_of_ble_eq_true rfl, Nat.le_of_ble_eq_true rfl⟩ (fun r2 v2 H locs hw2 hP9 hD9 hS9 => ?_)
  clear hP hD hS
  have hP := hP9
  have hD := hD9
  have hS := hS9
  clear hP9 hD9 hS9
  refine W.widen (k := 142) (n := 14416) (Nat.le_of_ble_eq_true rfl) (Nat.le_of_ble_eq_true rfl) ?_
  refine lv_pop hx hb dL_law_384 rfl ?_
  refine lv_goto (tgt := 1244) hx hb dL_law_385 (by decide) ?_
  exact hk u2 v2 H locs ls hw1.1 hw2.1 ⟨(sm_d hT.1 hw1.2.1 hw2.2.1), RH_eq hT.2.1 hw1.2.2.1 hw2.2.2.1, RS_eq hT.2.2.1 hw1.2.1.2.1 hw1.2.2.2.1 hw2.2.2.2.1, RMt_of hw1.2.2.2.2.2 hw2.2.2.2.2.2 hT.2.2.2⟩ hP hD hS hl
theorem gdL_law_388 : decode cL_law 388 = .ok (.aload_n 1, 1) ∧ decode cL_law 389 = .ok (.aload_n 0, 1) ∧ decode cL_law 390 = .ok (.iload_n 3, 1) ∧ decode cL_law 391 = .ok (.iconst 1, 1) ∧ decode cL_law 392 = .ok (.iadd, 1) ∧ decode cL_law 393 = .ok (.iaload, 1) ∧ decode cL_law 394 = .ok (.aload_n 0, 1) ∧ decode cL_law 395 = .ok (.iload_n 3, 1) ∧ decode cL_law 396 = .ok (.iconst 2, 1) ∧ decode cL_law 397 = .ok (.iadd, 1) ∧ decode cL_law 398 = .ok (.iaload, 1) ∧ decode cL_law 399 = .ok (.invokevirtual 41, 3) := by decide +kernel
theorem dL_law_388 : decode cL_law 388 = .ok (.aload_n 1, 1) := gdL_law_388.1
theorem dL_law_389 : decode cL_law 389 = .ok (.aload_n 0, 1) := gdL_law_388.2.1
theorem dL_law_390 : decode cL_law 390 = .ok (.iload_n 3, 1) := gdL_law_388.2.2.1
theorem dL_law_391 : decode cL_law 391 = .ok (.iconst 1, 1) := gdL_law_388.2.2.2.1
theorem dL_law_392 : decode cL_law 392 = .ok (.iadd, 1) := gdL_law_388.2.2.2.2.1
theorem dL_law_393 : decode cL_law 393 = .ok (.iaload, 1) := gdL_law_388.2.2.2.2.2.1
theorem dL_law_394 : decode cL_law 394 = .ok (.aload_n 0, 1) := gdL_law_388.2.2.2.2.2.2.1
theorem dL_law_395 : decode cL_law 395 = .ok (.iload_n 3, 1) := gdL_law_388.2.2.2.2.2.2.2.1
theorem dL_law_396 : decode cL_law 396 = .ok (.iconst 2, 1) := gdL_law_388.2.2.2.2.2.2.2.2.1
theorem dL_law_397 : decode cL_law 397 = .ok (.iadd, 1) := gdL_law_388.2.2.2.2.2.2.2.2.2.1
theorem dL_law_398 : decode cL_law 398 = .ok (.iaload, 1) := gdL_law_388.2.2.2.2.2.2.2.2.2.2.1
theorem dL_law_399 : decode cL_law 399 = .ok (.invokevirtual 41, 3) := gdL_law_388.2.2.2.2.2.2.2.2.2.2.2
theorem k_L_41 : xV RL RX11 41 yX11_leads cX11_leads 3 (some .int) 2 := ⟨⟨m_961, m_962, m_963, m_130, m_964⟩, rfl, by decide, by decide, by decide +kernel⟩
theorem gdL_law_402 : decode cL_law 402 = .ok (.pop, 1) ∧ decode cL_law 403 = .ok (.aload_n 2, 1) ∧ decode cL_law 404 = .ok (.aload_n 0, 1) ∧ decode cL_law 405 = .ok (.iload_n 3, 1) ∧ decode cL_law 406 = .ok (.iconst 1, 1) ∧ decode cL_law 407 = .ok (.iadd, 1) ∧ decode cL_law 408 = .ok (.iaload, 1) ∧ decode cL_law 409 = .ok (.aload_n 0, 1) ∧ decode cL_law 410 = .ok (.iload_n 3, 1) ∧ decode cL_law 411 = .ok (.iconst 2, 1) ∧ decode cL_law 412 = .ok (.iadd, 1) ∧ decode cL_law 413 = .ok (.iaload, 1) := by decide +kernel
theorem dL_law_402 : decode cL_law 402 = .ok (.pop, 1) := gdL_law_402.1
theorem dL_law_403 : decode cL_law 403 = .ok (.aload_n 2, 1) := gdL_law_402.2.1
theorem dL_law_404 : decode cL_law 404 = .ok (.aload_n 0, 1) := gdL_law_402.2.2.1
theorem dL_law_405 : decode cL_law 405 = .ok (.iload_n 3, 1) := gdL_law_402.2.2.2.1
theorem dL_law_406 : decode cL_law 406 = .ok (.iconst 1, 1) := gdL_law_402.2.2.2.2.1
theorem dL_law_407 : decode cL_law 407 = .ok (.iadd, 1) := gdL_law_402.2.2.2.2.2.1
theorem dL_law_408 : decode cL_law 408 = .ok (.iaload, 1) := gdL_law_402.2.2.2.2.2.2.1
theorem dL_law_409 : decode cL_law 409 = .ok (.aload_n 0, 1) := gdL_law_402.2.2.2.2.2.2.2.1
theorem dL_law_410 : decode cL_law 410 = .ok (.iload_n 3, 1) := gdL_law_402.2.2.2.2.2.2.2.2.1
theorem dL_law_411 : decode cL_law 411 = .ok (.iconst 2, 1) := gdL_law_402.2.2.2.2.2.2.2.2.2.1
theorem dL_law_412 : decode cL_law 412 = .ok (.iadd, 1) := gdL_law_402.2.2.2.2.2.2.2.2.2.2.1
theorem dL_law_413 : decode cL_law 413 = .ok (.iaload, 1) := gdL_law_402.2.2.2.2.2.2.2.2.2.2.2
theorem dL_law_414 : decode cL_law 414 = .ok (.invokevirtual 44, 3) := by decide +kernel
theorem k_L_44 : xV RL RX12 44 yX12_leads cX12_leads 3 (some .int) 2 := ⟨⟨m_1885, m_1886, m_1887, m_146, m_1888⟩, rfl, by decide, by decide, by decide +kernel⟩
theorem dL_law_417 : decode cL_law 417 = .ok (.pop, 1) := by decide +kernel
theorem dL_law_418 : decode cL_law 418 = .ok (.goto 826, 3) := by decide +kernel
set_option maxHeartbeats 4000000 in
set_option maxRecDepth 100000 in
theorem lc_leads {p : Program} {e : Env} {s : State} {m : MethodId} {below : List Frame} {meth : Method} {c : Code} (l : Launch) {D : va_G} {cy : Nat → ClassId} {A : Nat → Prop} {b L : Nat} {xs : Nat → Int32} (hL : L ≤ 3072) (C : lwC p s m meth c b L xs D cy A) {adK adV : Nat → Nat} (hE : EV adK adV A s) (x0 m0 : Nat) {i : Nat} (hi : i + 6 ≤ L) (hk : lwW p l e s m below meth c b D cy A x0 m0 i 1244) : lwW p l e s m below meth c b D cy A x0 m0 i 388 := by
  obtain ⟨hx, hb, hr, hml, hown, hg, hlocks, hX, hbl, hK, hA, hAr, hbA⟩ := C
  intro u v H locs ls hu hv hT hP hD hS hl
  refine lv_aload_n hx hb dL_law_388 rfl (lv_at hl 2 rfl) ?_
  refine lv_aload_n hx hb dL_law_389 rfl (lv_at hl 3 rfl) ?_
  refine lv_iload_n hx hb dL_law_390 rfl (lv_at hl 0 rfl) ?_
  refine lv_iconst (v := 1) hx hb dL_law_391 (by decide) ?_
  refine lv_iadd hx hb dL_law_392 ?_
  refine lv_topi (fun y_1 hy_1 => ?_)
  obtain rfl : y_1 = nI (i + 1) := hy_1.trans (nI_add i 1)
  refine va_sld hx hb hX hbl hbA hS (vp_in_nI (by omega) (by omega)) dL_law_393 ?_
  refine lv_aload_n hx hb dL_law_394 rfl (lv_at hl 3 rfl) ?_
  refine lv_iload_n hx hb dL_law_395 rfl (lv_at hl 0 rfl) ?_
  refine lv_iconst (v := 2) hx hb dL_law_396 (by decide) ?_
  refine lv_iadd hx hb dL_law_397 ?_
  refine lv_topi (fun y_2 hy_2 => ?_)
  obtain rfl : y_2 = nI (i + 2) := hy_2.trans (nI_add i 2)
  refine va_sld hx hb hX hbl hbA hS (vp_in_nI (by omega) (by omega)) dL_law_398 ?_
  refine x_callVi (q := (RX11, TX11, 14)) (ci := 11) (q0 := 0) (wr := IM cy m0 v) (rest := []) ⟨hx, hb, hml, hown, hg, hl.1⟩ k_L_41 (tx_leads l D cy x0 u hu (xs (nI (i + 1) : Int32).toNatClampNeg) (xs (nI (i + 2) : Int32).toNatClampNeg)) E0_blind hK hP hD hS hA [0, 1, 2, 3, 4, 5, 6, 7, 8, 9, 10, 11, 12, 13, 14, 15, 16, 17, 18, 19, 20, 21, 22, 23, 24, 25, 26, 27, 28, 29, 30, 31, 32, 33, 34, 35, 36, 37, 38, 39, 40, 41, 42, 43, 44, 45, 46, 47, 48, 49, 50, 51, 52, 53, 54, 55, 56, 57, 58, 59, 60, 61, 62, 63, 64, 65, 66, 67, 68, 69, 70, 71, 72, 73, 74, 75, 76, 77, 78, 79, 80, 81, 82, 83, 84, 85, 86, 87, 88, 89, 90, 91, 92, 93] [94, 95, 96, 97, 98, 99, 100, 101, 102, 103, 104, 105, 106, 107, 108, 109, 110, 111, 112, 113, 114, 115, 116, 117, 118, 119, 120, 121, 122, 123, 124, 125, 126, 127, 128, 129, 130, 131, 132, 133, 134, 135, 136, 137, 138, 139, 140, 141] (cutX cy x0 m0 u v) rfl rfl (fun _ _ _ => trivial) dL_law_399 rfl rfl (Nat.le_of_ble_eq_true rfl) ⟨Nat.le_of_ble_eq_true rfl, Nat.le_of_ble_eq_true rfl⟩ ⟨Nat.le_of_ble_eq_true rfl, Nat.le_of_ble_eq_true rfl⟩ (fun r1 u2 H locs hw1 hP9 hD9 hS9 => ?_)
  clear hP hD hS
  have hP := hP9
  have hD := hD9
  have hS := hS9
  clear hP9 hD9 hS9
  refine W.widen (k := 142) (n := 14416) (Nat.le_of_ble_eq_true rfl) (Nat.le_of_ble_eq_true rfl) ?_
  refine lv_pop hx hb dL_law_402 rfl ?_
  refine lv_aload_n hx hb dL_law_403 rfl (lv_at hl 1 rfl) ?_
  refine lv_aload_n hx hb dL_law_404 rfl (lv_at hl 3 rfl) ?_
  refine lv_iload_n hx hb dL_law_405 rfl (lv_at hl 0 rfl) ?_
  refine lv_iconst (v := 1) hx hb dL_law_406 (by decide) ?_
  refine lv_iadd hx hb dL_law_407 ?_
  refine lv_topi (fun y_3 hy_3 => ?_)
  obtain rfl : y_3 = nI (i + 1) := hy_3.trans (nI_add i 1)
  refine va_sld hx hb hX hbl hbA hS (vp_in_nI (by omega) (by omega)) dL_law_408 ?_
  refine lv_aload_n hx hb dL_law_409 rfl (lv_at hl 3 rfl) ?_
  refine lv_iload_n hx hb dL_law_410 rfl (lv_at hl 0 rfl) ?_
  refine lv_iconst (v := 2) hx hb dL_law_411 (by decide) ?_
  refine lv_iadd hx hb dL_law_412 ?_
  refine lv_topi (fun y_4 hy_4 => ?_)
  obtain rfl : y_4 = nI (i + 2) := hy_4.trans (nI_add i 2)
  refine va_sld hx hb hX hbl hbA hS (vp_in_nI (by omega) (by omega)) dL_law_413 ?_
  refine x_callVi (q := (RX12, TX12, 89)) (ci := 12) (q0 := 0) (wr := IX cy x0 u2) (rest := []) ⟨hx, hb, hml, hown, hg, hl.1⟩ k_L_44 (tm_leads l D cy m0 v hv (xs (nI (i + 1) : Int32).toNatClampNeg) (xs (nI (i + 2) : Int32).toNatClampNeg)) E0_blind hK hP hD hS hA [0, 1, 2, 3, 4, 5, 6, 7, 8, 9, 10, 11, 12, 13, 14, 15, 16, 17, 18, 19, 20, 21, 22, 23, 24, 25, 26, 27, 28, 29, 30, 31, 32, 33, 34, 35, 36, 37, 38, 39, 40, 41, 42, 43, 44, 45, 46, 47] [48, 49, 50, 51, 52, 53, 54, 55, 56, 57, 58, 59, 60, 61, 62, 63, 64, 65, 66, 67, 68, 69, 70, 71, 72, 73, 74, 75, 76, 77, 78, 79, 80, 81, 82, 83, 84, 85, 86, 87, 88, 89, 90, 91, 92, 93, 94, 95, 96, 97, 98, 99, 100, 101, 102, 103, 104, 105, 106, 107, 108, 109, 110, 111, 112, 113, 114, 115, 116, 117, 118, 119, 120, 121, 122, 123, 124, 125, 126, 127, 128, 129, 130, 131, 132, 133, 134, 135, 136, 137, 138, 139, 140, 141] (cutM cy x0 m0 u2 v) rfl rfl (fun _ _ _ => trivial) dL_law_414 rfl rfl (Nat.le_of_ble_eq_true rfl) ⟨Nat.le_of_ble_eq_true rfl, Nat.le_of_ble_eq_true rfl⟩ ⟨Nat.le_of_ble_eq_true rfl, Nat.le_of_ble_eq_true rfl⟩ (fun r2 v2 H locs hw2 hP9 hD9 hS9 => ?_)
  clear hP hD hS
  have hP := hP9
  have hD := hD9
  have hS := hS9
  clear hP9 hD9 hS9
  refine W.widen (k := 142) (n := 14416) (Nat.le_of_ble_eq_true rfl) (Nat.le_of_ble_eq_true rfl) ?_
  refine lv_pop hx hb dL_law_417 rfl ?_
  refine lv_goto (tgt := 1244) hx hb dL_law_418 (by decide) ?_
  exact hk u2 v2 H locs ls hw1.1 hw2.1 ⟨(sm_d hT.1 hw1.2.1 hw2.2.1), RH_eq hT.2.1 hw1.2.2.1 hw2.2.2.1, RS_eq hT.2.2.1 hw1.2.1.2.1 hw1.2.2.2.1 hw2.2.2.2.1, RMt_of hw1.2.2.2.2.2 hw2.2.2.2.2.2 hT.2.2.2⟩ hP hD hS hl
theorem gdL_law_421 : decode cL_law 421 = .ok (.aload_n 1, 1) ∧ decode cL_law 422 = .ok (.aload_n 0, 1) ∧ decode cL_law 423 = .ok (.iload_n 3, 1) ∧ decode cL_law 424 = .ok (.iconst 1, 1) ∧ decode cL_law 425 = .ok (.iadd, 1) ∧ decode cL_law 426 = .ok (.iaload, 1) ∧ decode cL_law 427 = .ok (.aload_n 0, 1) ∧ decode cL_law 428 = .ok (.iload_n 3, 1) ∧ decode cL_law 429 = .ok (.iconst 2, 1) ∧ decode cL_law 430 = .ok (.iadd, 1) ∧ decode cL_law 431 = .ok (.iaload, 1) ∧ decode cL_law 432 = .ok (.invokevirtual 45, 3) := by decide +kernel
theorem dL_law_421 : decode cL_law 421 = .ok (.aload_n 1, 1) := gdL_law_421.1
theorem dL_law_422 : decode cL_law 422 = .ok (.aload_n 0, 1) := gdL_law_421.2.1
theorem dL_law_423 : decode cL_law 423 = .ok (.iload_n 3, 1) := gdL_law_421.2.2.1
theorem dL_law_424 : decode cL_law 424 = .ok (.iconst 1, 1) := gdL_law_421.2.2.2.1
theorem dL_law_425 : decode cL_law 425 = .ok (.iadd, 1) := gdL_law_421.2.2.2.2.1
theorem dL_law_426 : decode cL_law 426 = .ok (.iaload, 1) := gdL_law_421.2.2.2.2.2.1
theorem dL_law_427 : decode cL_law 427 = .ok (.aload_n 0, 1) := gdL_law_421.2.2.2.2.2.2.1
theorem dL_law_428 : decode cL_law 428 = .ok (.iload_n 3, 1) := gdL_law_421.2.2.2.2.2.2.2.1
theorem dL_law_429 : decode cL_law 429 = .ok (.iconst 2, 1) := gdL_law_421.2.2.2.2.2.2.2.2.1
theorem dL_law_430 : decode cL_law 430 = .ok (.iadd, 1) := gdL_law_421.2.2.2.2.2.2.2.2.2.1
theorem dL_law_431 : decode cL_law 431 = .ok (.iaload, 1) := gdL_law_421.2.2.2.2.2.2.2.2.2.2.1
theorem dL_law_432 : decode cL_law 432 = .ok (.invokevirtual 45, 3) := gdL_law_421.2.2.2.2.2.2.2.2.2.2.2
theorem k_L_45 : xV RL RX11 45 yX11_say cX11_say 3 (some .int) 2 := ⟨⟨m_965, m_966, m_967, m_130, m_968⟩, rfl, by decide, by decide, by decide +kernel⟩
theorem gdL_law_435 : decode cL_law 435 = .ok (.pop, 1) ∧ decode cL_law 436 = .ok (.aload_n 2, 1) ∧ decode cL_law 437 = .ok (.aload_n 0, 1) ∧ decode cL_law 438 = .ok (.iload_n 3, 1) ∧ decode cL_law 439 = .ok (.iconst 1, 1) ∧ decode cL_law 440 = .ok (.iadd, 1) ∧ decode cL_law 441 = .ok (.iaload, 1) ∧ decode cL_law 442 = .ok (.aload_n 0, 1) ∧ decode cL_law 443 = .ok (.iload_n 3, 1) ∧ decode cL_law 444 = .ok (.iconst 2, 1) ∧ decode cL_law 445 = .ok (.iadd, 1) ∧ decode cL_law 446 = .ok (.iaload, 1) := by decide +kernel
theorem dL_law_435 : decode cL_law 435 = .ok (.pop, 1) := gdL_law_435.1
theorem dL_law_436 : decode cL_law 436 = .ok (.aload_n 2, 1) := gdL_law_435.2.1
theorem dL_law_437 : decode cL_law 437 = .ok (.aload_n 0, 1) := gdL_law_435.2.2.1
theorem dL_law_438 : decode cL_law 438 = .ok (.iload_n 3, 1) := gdL_law_435.2.2.2.1
theorem dL_law_439 : decode cL_law 439 = .ok (.iconst 1, 1) := gdL_law_435.2.2.2.2.1
theorem dL_law_440 : decode cL_law 440 = .ok (.iadd, 1) := gdL_law_435.2.2.2.2.2.1
theorem dL_law_441 : decode cL_law 441 = .ok (.iaload, 1) := gdL_law_435.2.2.2.2.2.2.1
theorem dL_law_442 : decode cL_law 442 = .ok (.aload_n 0, 1) := gdL_law_435.2.2.2.2.2.2.2.1
theorem dL_law_443 : decode cL_law 443 = .ok (.iload_n 3, 1) := gdL_law_435.2.2.2.2.2.2.2.2.1
theorem dL_law_444 : decode cL_law 444 = .ok (.iconst 2, 1) := gdL_law_435.2.2.2.2.2.2.2.2.2.1
theorem dL_law_445 : decode cL_law 445 = .ok (.iadd, 1) := gdL_law_435.2.2.2.2.2.2.2.2.2.2.1
theorem dL_law_446 : decode cL_law 446 = .ok (.iaload, 1) := gdL_law_435.2.2.2.2.2.2.2.2.2.2.2
theorem dL_law_447 : decode cL_law 447 = .ok (.invokevirtual 48, 3) := by decide +kernel
theorem k_L_48 : xV RL RX12 48 yX12_say cX12_say 3 (some .int) 2 := ⟨⟨m_1901, m_1902, m_1903, m_146, m_1904⟩, rfl, by decide, by decide, by decide +kernel⟩
theorem dL_law_450 : decode cL_law 450 = .ok (.pop, 1) := by decide +kernel
theorem dL_law_451 : decode cL_law 451 = .ok (.goto 793, 3) := by decide +kernel
set_option maxHeartbeats 4000000 in
set_option maxRecDepth 100000 in
theorem lc_say {p : Program} {e : Env} {s : State} {m : MethodId} {below : List Frame} {meth : Method} {c : Code} (l : Launch) {D : va_G} {cy : Nat → ClassId} {A : Nat → Prop} {b L : Nat} {xs : Nat → Int32} (hL : L ≤ 3072) (C : lwC p s m meth c b L xs D cy A) {adK adV : Nat → Nat} (hE : EV adK adV A s) (x0 m0 : Nat) {i : Nat} (hi : i + 6 ≤ L) (hk : lwW p l e s m below meth c b D cy A x0 m0 i 1244) : lwW p l e s m below meth c b D cy A x0 m0 i 421 := by
  obtain ⟨hx, hb, hr, hml, hown, hg, hlocks, hX, hbl, hK, hA, hAr, hbA⟩ := C
  intro u v H locs ls hu hv hT hP hD hS hl
  refine lv_aload_n hx hb dL_law_421 rfl (lv_at hl 2 rfl) ?_
  refine lv_aload_n hx hb dL_law_422 rfl (lv_at hl 3 rfl) ?_
  refine lv_iload_n hx hb dL_law_423 rfl (lv_at hl 0 rfl) ?_
  refine lv_iconst (v := 1) hx hb dL_law_424 (by decide) ?_
  refine lv_iadd hx hb dL_law_425 ?_
  refine lv_topi (fun y_1 hy_1 => ?_)
  obtain rfl : y_1 = nI (i + 1) := hy_1.trans (nI_add i 1)
  refine va_sld hx hb hX hbl hbA hS (vp_in_nI (by omega) (by omega)) dL_law_426 ?_
  refine lv_aload_n hx hb dL_law_427 rfl (lv_at hl 3 rfl) ?_
  refine lv_iload_n hx hb dL_law_428 rfl (lv_at hl 0 rfl) ?_
  refine lv_iconst (v := 2) hx hb dL_law_429 (by decide) ?_
  refine lv_iadd hx hb dL_law_430 ?_
  refine lv_topi (fun y_2 hy_2 => ?_)
  obtain rfl : y_2 = nI (i + 2) := hy_2.trans (nI_add i 2)
  refine va_sld hx hb hX hbl hbA hS (vp_in_nI (by omega) (by omega)) dL_law_431 ?_
  refine x_callVi (q := (RX11, TX11, 14)) (ci := 11) (q0 := 0) (wr := IM cy m0 v) (rest := []) ⟨hx, hb, hml, hown, hg, hl.1⟩ k_L_45 (tx_say l D cy x0 u hu (xs (nI (i + 1) : Int32).toNatClampNeg) (xs (nI (i + 2) : Int32).toNatClampNeg)) E0_blind hK hP hD hS hA [0, 1, 2, 3, 4, 5, 6, 7, 8, 9, 10, 11, 12, 13, 14, 15, 16, 17, 18, 19, 20, 21, 22, 23, 24, 25, 26, 27, 28, 29, 30, 31, 32, 33, 34, 35, 36, 37, 38, 39, 40, 41, 42, 43, 44, 45, 46, 47, 48, 49, 50, 51, 52, 53, 54, 55, 56, 57, 58, 59, 60, 61, 62, 63, 64, 65, 66, 67, 68, 69, 70, 71, 72, 73, 74, 75, 76, 77, 78, 79, 80, 81, 82, 83, 84, 85, 86, 87, 88, 89, 90, 91, 92, 93] [94, 95, 96, 97, 98, 99, 100, 101, 102, 103, 104, 105, 106, 107, 108, 109, 110, 111, 112, 113, 114, 115, 116, 117, 118, 119, 120, 121, 122, 123, 124, 125, 126, 127, 128, 129, 130, 131, 132, 133, 134, 135, 136, 137, 138, 139, 140, 141] (cutX cy x0 m0 u v) rfl rfl (fun _ _ _ => trivial) dL_law_432 rfl rfl (Nat.le_of_ble_eq_true rfl) ⟨Nat.le_of_ble_eq_true rfl, Nat.le_of_ble_eq_true rfl⟩ ⟨Nat.le_of_ble_eq_true rfl, Nat.le_of_ble_eq_true rfl⟩ (fun r1 u2 H locs hw1 hP9 hD9 hS9 => ?_)
  clear hP hD hS
  have hP := hP9
  have hD := hD9
  have hS := hS9
  clear hP9 hD9 hS9
  refine W.widen (k := 142) (n := 14416) (Nat.le_of_ble_eq_true rfl) (Nat.le_of_ble_eq_true rfl) ?_
  refine lv_pop hx hb dL_law_435 rfl ?_
  refine lv_aload_n hx hb dL_law_436 rfl (lv_at hl 1 rfl) ?_
  refine lv_aload_n hx hb dL_law_437 rfl (lv_at hl 3 rfl) ?_
  refine lv_iload_n hx hb dL_law_438 rfl (lv_at hl 0 rfl) ?_
  refine lv_iconst (v := 1) hx hb dL_law_439 (by decide) ?_
  refine lv_iadd hx hb dL_law_440 ?_
  refine lv_topi (fun y_3 hy_3 => ?_)
  obtain rfl : y_3 = nI (i + 1) := hy_3.trans (nI_add i 1)
  refine va_sld hx hb hX hbl hbA hS (vp_in_nI (by omega) (by omega)) dL_law_441 ?_
  refine lv_aload_n hx hb dL_law_442 rfl (lv_at hl 3 rfl) ?_
  refine lv_iload_n hx hb dL_law_443 rfl (lv_at hl 0 rfl) ?_
  refine lv_iconst (v := 2) hx hb dL_law_444 (by decide) ?_
  refine lv_iadd hx hb dL_law_445 ?_
  refine lv_topi (fun y_4 hy_4 => ?_)
  obtain rfl : y_4 = nI (i + 2) := hy_4.trans (nI_add i 2)
  refine va_sld hx hb hX hbl hbA hS (vp_in_nI (by omega) (by omega)) dL_law_446 ?_
  refine x_callVi (q := (RX12, TX12, 89)) (ci := 12) (q0 := 0) (wr := IX cy x0 u2) (rest := []) ⟨hx, hb, hml, hown, hg, hl.1⟩ k_L_48 (tm_say l D cy m0 v hv (xs (nI (i + 1) : Int32).toNatClampNeg) (xs (nI (i + 2) : Int32).toNatClampNeg)) E0_blind hK hP hD hS hA [0, 1, 2, 3, 4, 5, 6, 7, 8, 9, 10, 11, 12, 13, 14, 15, 16, 17, 18, 19, 20, 21, 22, 23, 24, 25, 26, 27, 28, 29, 30, 31, 32, 33, 34, 35, 36, 37, 38, 39, 40, 41, 42, 43, 44, 45, 46, 47] [48, 49, 50, 51, 52, 53, 54, 55, 56, 57, 58, 59, 60, 61, 62, 63, 64, 65, 66, 67, 68, 69, 70, 71, 72, 73, 74, 75, 76, 77, 78, 79, 80, 81, 82, 83, 84, 85, 86, 87, 88, 89, 90, 91, 92, 93, 94, 95, 96, 97, 98, 99, 100, 101, 102, 103, 104, 105, 106, 107, 108, 109, 110, 111, 112, 113, 114, 115, 116, 117, 118, 119, 120, 121, 122, 123, 124, 125, 126, 127, 128, 129, 130, 131, 132, 133, 134, 135, 136, 137, 138, 139, 140, 141] (cutM cy x0 m0 u2 v) rfl rfl (fun _ _ _ => trivial) dL_law_447 rfl rfl (Nat.le_of_ble_eq_true rfl) ⟨Nat.le_of_ble_eq_true rfl, Nat.le_of_ble_eq_true rfl⟩ ⟨Nat.le_of_ble_eq_true rfl, Nat.le_of_ble_eq_true rfl⟩ (fun r2 v2 H locs hw2 hP9 hD9 hS9 => ?_)
  clear hP hD hS
  have hP := hP9
  have hD := hD9
  have hS := hS9
  clear hP9 hD9 hS9
  refine W.widen (k := 142) (n := 14416) (Nat.le_of_ble_eq_true rfl) (Nat.le_of_ble_eq_true rfl) ?_
  refine lv_pop hx hb dL_law_450 rfl ?_
  refine lv_goto (tgt := 1244) hx hb dL_law_451 (by decide) ?_
  exact hk u2 v2 H locs ls hw1.1 hw2.1 ⟨(sm_d hT.1 hw1.2.1 hw2.2.1), RH_eq hT.2.1 hw1.2.2.1 hw2.2.2.1, RS_eq hT.2.2.1 hw1.2.1.2.1 hw1.2.2.2.1 hw2.2.2.2.1, RMt_of hw1.2.2.2.2.2.2 hw2.2.2.2.2.2.2 (sy_same (by decide) (by decide) hT.2.1.1.1 hu.2.2.1 hT.2.2.2 hw1.2.2.2.2.2.1 hw2.2.2.2.2.2.1).2⟩ hP hD hS hl
theorem gdL_law_454 : decode cL_law 454 = .ok (.aload_n 1, 1) ∧ decode cL_law 455 = .ok (.aload_n 0, 1) ∧ decode cL_law 456 = .ok (.iload_n 3, 1) ∧ decode cL_law 457 = .ok (.iconst 1, 1) ∧ decode cL_law 458 = .ok (.iadd, 1) ∧ decode cL_law 459 = .ok (.iaload, 1) ∧ decode cL_law 460 = .ok (.invokevirtual 49, 3) := by decide +kernel
theorem dL_law_454 : decode cL_law 454 = .ok (.aload_n 1, 1) := gdL_law_454.1
theorem dL_law_455 : decode cL_law 455 = .ok (.aload_n 0, 1) := gdL_law_454.2.1
theorem dL_law_456 : decode cL_law 456 = .ok (.iload_n 3, 1) := gdL_law_454.2.2.1
theorem dL_law_457 : decode cL_law 457 = .ok (.iconst 1, 1) := gdL_law_454.2.2.2.1
theorem dL_law_458 : decode cL_law 458 = .ok (.iadd, 1) := gdL_law_454.2.2.2.2.1
theorem dL_law_459 : decode cL_law 459 = .ok (.iaload, 1) := gdL_law_454.2.2.2.2.2.1
theorem dL_law_460 : decode cL_law 460 = .ok (.invokevirtual 49, 3) := gdL_law_454.2.2.2.2.2.2
theorem k_L_49 : xV RL RX11 49 yX11_unsay cX11_unsay 2 (some .int) 1 := ⟨⟨m_985, m_986, m_987, m_130, m_988⟩, rfl, by decide, by decide, by decide +kernel⟩
theorem gdL_law_463 : decode cL_law 463 = .ok (.pop, 1) ∧ decode cL_law 464 = .ok (.aload_n 2, 1) ∧ decode cL_law 465 = .ok (.aload_n 0, 1) ∧ decode cL_law 466 = .ok (.iload_n 3, 1) ∧ decode cL_law 467 = .ok (.iconst 1, 1) ∧ decode cL_law 468 = .ok (.iadd, 1) ∧ decode cL_law 469 = .ok (.iaload, 1) ∧ decode cL_law 470 = .ok (.invokevirtual 52, 3) := by decide +kernel
theorem dL_law_463 : decode cL_law 463 = .ok (.pop, 1) := gdL_law_463.1
theorem dL_law_464 : decode cL_law 464 = .ok (.aload_n 2, 1) := gdL_law_463.2.1
theorem dL_law_465 : decode cL_law 465 = .ok (.aload_n 0, 1) := gdL_law_463.2.2.1
theorem dL_law_466 : decode cL_law 466 = .ok (.iload_n 3, 1) := gdL_law_463.2.2.2.1
theorem dL_law_467 : decode cL_law 467 = .ok (.iconst 1, 1) := gdL_law_463.2.2.2.2.1
theorem dL_law_468 : decode cL_law 468 = .ok (.iadd, 1) := gdL_law_463.2.2.2.2.2.1
theorem dL_law_469 : decode cL_law 469 = .ok (.iaload, 1) := gdL_law_463.2.2.2.2.2.2.1
theorem dL_law_470 : decode cL_law 470 = .ok (.invokevirtual 52, 3) := gdL_law_463.2.2.2.2.2.2.2
theorem k_L_52 : xV RL RX12 52 yX12_unsay cX12_unsay 2 (some .int) 1 := ⟨⟨m_1912, m_1913, m_1914, m_146, m_1915⟩, rfl, by decide, by decide, by decide +kernel⟩
theorem dL_law_473 : decode cL_law 473 = .ok (.pop, 1) := by decide +kernel
theorem dL_law_474 : decode cL_law 474 = .ok (.goto 770, 3) := by decide +kernel
set_option maxHeartbeats 4000000 in
set_option maxRecDepth 100000 in
theorem lc_unsay {p : Program} {e : Env} {s : State} {m : MethodId} {below : List Frame} {meth : Method} {c : Code} (l : Launch) {D : va_G} {cy : Nat → ClassId} {A : Nat → Prop} {b L : Nat} {xs : Nat → Int32} (hL : L ≤ 3072) (C : lwC p s m meth c b L xs D cy A) {adK adV : Nat → Nat} (hE : EV adK adV A s) (x0 m0 : Nat) {i : Nat} (hi : i + 6 ≤ L) (hk : lwW p l e s m below meth c b D cy A x0 m0 i 1244) : lwW p l e s m below meth c b D cy A x0 m0 i 454 := by
  obtain ⟨hx, hb, hr, hml, hown, hg, hlocks, hX, hbl, hK, hA, hAr, hbA⟩ := C
  intro u v H locs ls hu hv hT hP hD hS hl
  refine lv_aload_n hx hb dL_law_454 rfl (lv_at hl 2 rfl) ?_
  refine lv_aload_n hx hb dL_law_455 rfl (lv_at hl 3 rfl) ?_
  refine lv_iload_n hx hb dL_law_456 rfl (lv_at hl 0 rfl) ?_
  refine lv_iconst (v := 1) hx hb dL_law_457 (by decide) ?_
  refine lv_iadd hx hb dL_law_458 ?_
  refine lv_topi (fun y_1 hy_1 => ?_)
  obtain rfl : y_1 = nI (i + 1) := hy_1.trans (nI_add i 1)
  refine va_sld hx hb hX hbl hbA hS (vp_in_nI (by omega) (by omega)) dL_law_459 ?_
  refine x_callVi (q := (RX11, TX11, 14)) (ci := 11) (q0 := 0) (wr := IM cy m0 v) (rest := []) ⟨hx, hb, hml, hown, hg, hl.1⟩ k_L_49 (tx_unsay l D cy x0 u hu (xs (nI (i + 1) : Int32).toNatClampNeg)) E0_blind hK hP hD hS hA [0, 1, 2, 3, 4, 5, 6, 7, 8, 9, 10, 11, 12, 13, 14, 15, 16, 17, 18, 19, 20, 21, 22, 23, 24, 25, 26, 27, 28, 29, 30, 31, 32, 33, 34, 35, 36, 37, 38, 39, 40, 41, 42, 43, 44, 45, 46, 47, 48, 49, 50, 51, 52, 53, 54, 55, 56, 57, 58, 59, 60, 61, 62, 63, 64, 65, 66, 67, 68, 69, 70, 71, 72, 73, 74, 75, 76, 77, 78, 79, 80, 81, 82, 83, 84, 85, 86, 87, 88, 89, 90, 91, 92, 93] [94, 95, 96, 97, 98, 99, 100, 101, 102, 103, 104, 105, 106, 107, 108, 109, 110, 111, 112, 113, 114, 115, 116, 117, 118, 119, 120, 121, 122, 123, 124, 125, 126, 127, 128, 129, 130, 131, 132, 133, 134, 135, 136, 137, 138, 139, 140, 141] (cutX cy x0 m0 u v) rfl rfl (fun _ _ _ => trivial) dL_law_460 rfl rfl (Nat.le_of_ble_eq_true rfl) ⟨Nat.le_of_ble_eq_true rfl, Nat.le_of_ble_eq_true rfl⟩ ⟨Nat.le_of_ble_eq_true rfl, Nat.le_of_ble_eq_true rfl⟩ (fun r1 u2 H locs hw1 hP9 hD9 hS9 => ?_)
  clear hP hD hS
  have hP := hP9
  have hD := hD9
  have hS := hS9
  clear hP9 hD9 hS9
  refine W.widen (k := 142) (n := 14416) (Nat.le_of_ble_eq_true rfl) (Nat.le_of_ble_eq_true rfl) ?_
  refine lv_pop hx hb dL_law_463 rfl ?_
  refine lv_aload_n hx hb dL_law_464 rfl (lv_at hl 1 rfl) ?_
  refine lv_aload_n hx hb dL_law_465 rfl (lv_at hl 3 rfl) ?_
  refine lv_iload_n hx hb dL_law_466 rfl (lv_at hl 0 rfl) ?_
  refine lv_iconst (v := 1) hx hb dL_law_467 (by decide) ?_
  refine lv_iadd hx hb dL_law_468 ?_
  refine lv_topi (fun y_2 hy_2 => ?_)
  obtain rfl : y_2 = nI (i + 1) := hy_2.trans (nI_add i 1)
  refine va_sld hx hb hX hbl hbA hS (vp_in_nI (by omega) (by omega)) dL_law_469 ?_
  refine x_callVi (q := (RX12, TX12, 89)) (ci := 12) (q0 := 0) (wr := IX cy x0 u2) (rest := []) ⟨hx, hb, hml, hown, hg, hl.1⟩ k_L_52 (tm_unsay l D cy m0 v hv (xs (nI (i + 1) : Int32).toNatClampNeg)) E0_blind hK hP hD hS hA [0, 1, 2, 3, 4, 5, 6, 7, 8, 9, 10, 11, 12, 13, 14, 15, 16, 17, 18, 19, 20, 21, 22, 23, 24, 25, 26, 27, 28, 29, 30, 31, 32, 33, 34, 35, 36, 37, 38, 39, 40, 41, 42, 43, 44, 45, 46, 47] [48, 49, 50, 51, 52, 53, 54, 55, 56, 57, 58, 59, 60, 61, 62, 63, 64, 65, 66, 67, 68, 69, 70, 71, 72, 73, 74, 75, 76, 77, 78, 79, 80, 81, 82, 83, 84, 85, 86, 87, 88, 89, 90, 91, 92, 93, 94, 95, 96, 97, 98, 99, 100, 101, 102, 103, 104, 105, 106, 107, 108, 109, 110, 111, 112, 113, 114, 115, 116, 117, 118, 119, 120, 121, 122, 123, 124, 125, 126, 127, 128, 129, 130, 131, 132, 133, 134, 135, 136, 137, 138, 139, 140, 141] (cutM cy x0 m0 u2 v) rfl rfl (fun _ _ _ => trivial) dL_law_470 rfl rfl (Nat.le_of_ble_eq_true rfl) ⟨Nat.le_of_ble_eq_true rfl, Nat.le_of_ble_eq_true rfl⟩ ⟨Nat.le_of_ble_eq_true rfl, Nat.le_of_ble_eq_true rfl⟩ (fun r2 v2 H locs hw2 hP9 hD9 hS9 => ?_)
  clear hP hD hS
  have hP := hP9
  have hD := hD9
  have hS := hS9
  clear hP9 hD9 hS9
  refine W.widen (k := 142) (n := 14416) (Nat.le_of_ble_eq_true rfl) (Nat.le_of_ble_eq_true rfl) ?_
  refine lv_pop hx hb dL_law_473 rfl ?_
  refine lv_goto (tgt := 1244) hx hb dL_law_474 (by decide) ?_
  exact hk u2 v2 H locs ls hw1.1 hw2.1 ⟨(sm_d hT.1 hw1.2.1 hw2.2.1), RH_eq hT.2.1 hw1.2.2.1 hw2.2.2.1, RS_eq hT.2.2.1 hw1.2.1.2.1 hw1.2.2.2.1 hw2.2.2.2.1, RMt_of hw1.2.2.2.2.2.2 hw2.2.2.2.2.2.2 (uy_same (by decide) (by decide) hT.2.2.2 hw1.2.2.2.2.2.1 hw2.2.2.2.2.2.1).2⟩ hP hD hS hl
theorem gdL_law_477 : decode cL_law 477 = .ok (.aload_n 1, 1) ∧ decode cL_law 478 = .ok (.aload_n 0, 1) ∧ decode cL_law 479 = .ok (.iload_n 3, 1) ∧ decode cL_law 480 = .ok (.iconst 1, 1) ∧ decode cL_law 481 = .ok (.iadd, 1) ∧ decode cL_law 482 = .ok (.iaload, 1) ∧ decode cL_law 483 = .ok (.aload_n 0, 1) ∧ decode cL_law 484 = .ok (.iload_n 3, 1) ∧ decode cL_law 485 = .ok (.iconst 2, 1) ∧ decode cL_law 486 = .ok (.iadd, 1) ∧ decode cL_law 487 = .ok (.iaload, 1) ∧ decode cL_law 488 = .ok (.invokevirtual 53, 3) := by decide +kernel
theorem dL_law_477 : decode cL_law 477 = .ok (.aload_n 1, 1) := gdL_law_477.1
theorem dL_law_478 : decode cL_law 478 = .ok (.aload_n 0, 1) := gdL_law_477.2.1
theorem dL_law_479 : decode cL_law 479 = .ok (.iload_n 3, 1) := gdL_law_477.2.2.1
theorem dL_law_480 : decode cL_law 480 = .ok (.iconst 1, 1) := gdL_law_477.2.2.2.1
theorem dL_law_481 : decode cL_law 481 = .ok (.iadd, 1) := gdL_law_477.2.2.2.2.1
theorem dL_law_482 : decode cL_law 482 = .ok (.iaload, 1) := gdL_law_477.2.2.2.2.2.1
theorem dL_law_483 : decode cL_law 483 = .ok (.aload_n 0, 1) := gdL_law_477.2.2.2.2.2.2.1
theorem dL_law_484 : decode cL_law 484 = .ok (.iload_n 3, 1) := gdL_law_477.2.2.2.2.2.2.2.1
theorem dL_law_485 : decode cL_law 485 = .ok (.iconst 2, 1) := gdL_law_477.2.2.2.2.2.2.2.2.1
theorem dL_law_486 : decode cL_law 486 = .ok (.iadd, 1) := gdL_law_477.2.2.2.2.2.2.2.2.2.1
theorem dL_law_487 : decode cL_law 487 = .ok (.iaload, 1) := gdL_law_477.2.2.2.2.2.2.2.2.2.2.1
theorem dL_law_488 : decode cL_law 488 = .ok (.invokevirtual 53, 3) := gdL_law_477.2.2.2.2.2.2.2.2.2.2.2
theorem k_L_53 : xV RL RX11 53 yX11_said cX11_said 3 (some .int) 2 := ⟨⟨m_993, m_994, m_995, m_130, m_996⟩, rfl, by decide, by decide, by decide +kernel⟩
theorem gdL_law_491 : decode cL_law 491 = .ok (.pop, 1) ∧ decode cL_law 492 = .ok (.aload_n 2, 1) ∧ decode cL_law 493 = .ok (.aload_n 0, 1) ∧ decode cL_law 494 = .ok (.iload_n 3, 1) ∧ decode cL_law 495 = .ok (.iconst 1, 1) ∧ decode cL_law 496 = .ok (.iadd, 1) ∧ decode cL_law 497 = .ok (.iaload, 1) ∧ decode cL_law 498 = .ok (.aload_n 0, 1) ∧ decode cL_law 499 = .ok (.iload_n 3, 1) ∧ decode cL_law 500 = .ok (.iconst 2, 1) ∧ decode cL_law 501 = .ok (.iadd, 1) ∧ decode cL_law 502 = .ok (.iaload, 1) := by decide +kernel
theorem dL_law_491 : decode cL_law 491 = .ok (.pop, 1) := gdL_law_491.1
theorem dL_law_492 : decode cL_law 492 = .ok (.aload_n 2, 1) := gdL_law_491.2.1
theorem dL_law_493 : decode cL_law 493 = .ok (.aload_n 0, 1) := gdL_law_491.2.2.1
theorem dL_law_494 : decode cL_law 494 = .ok (.iload_n 3, 1) := gdL_law_491.2.2.2.1
theorem dL_law_495 : decode cL_law 495 = .ok (.iconst 1, 1) := gdL_law_491.2.2.2.2.1
theorem dL_law_496 : decode cL_law 496 = .ok (.iadd, 1) := gdL_law_491.2.2.2.2.2.1
theorem dL_law_497 : decode cL_law 497 = .ok (.iaload, 1) := gdL_law_491.2.2.2.2.2.2.1
theorem dL_law_498 : decode cL_law 498 = .ok (.aload_n 0, 1) := gdL_law_491.2.2.2.2.2.2.2.1
theorem dL_law_499 : decode cL_law 499 = .ok (.iload_n 3, 1) := gdL_law_491.2.2.2.2.2.2.2.2.1
theorem dL_law_500 : decode cL_law 500 = .ok (.iconst 2, 1) := gdL_law_491.2.2.2.2.2.2.2.2.2.1
theorem dL_law_501 : decode cL_law 501 = .ok (.iadd, 1) := gdL_law_491.2.2.2.2.2.2.2.2.2.2.1
theorem dL_law_502 : decode cL_law 502 = .ok (.iaload, 1) := gdL_law_491.2.2.2.2.2.2.2.2.2.2.2
theorem dL_law_503 : decode cL_law 503 = .ok (.invokevirtual 56, 3) := by decide +kernel
theorem k_L_56 : xV RL RX12 56 yX12_said cX12_said 3 (some .int) 2 := ⟨⟨m_1916, m_1917, m_1918, m_146, m_1919⟩, rfl, by decide, by decide, by decide +kernel⟩
theorem dL_law_506 : decode cL_law 506 = .ok (.pop, 1) := by decide +kernel
theorem dL_law_507 : decode cL_law 507 = .ok (.goto 737, 3) := by decide +kernel
set_option maxHeartbeats 4000000 in
set_option maxRecDepth 100000 in
theorem lc_said {p : Program} {e : Env} {s : State} {m : MethodId} {below : List Frame} {meth : Method} {c : Code} (l : Launch) {D : va_G} {cy : Nat → ClassId} {A : Nat → Prop} {b L : Nat} {xs : Nat → Int32} (hL : L ≤ 3072) (C : lwC p s m meth c b L xs D cy A) {adK adV : Nat → Nat} (hE : EV adK adV A s) (x0 m0 : Nat) {i : Nat} (hi : i + 6 ≤ L) (hk : lwW p l e s m below meth c b D cy A x0 m0 i 1244) : lwW p l e s m below meth c b D cy A x0 m0 i 477 := by
  obtain ⟨hx, hb, hr, hml, hown, hg, hlocks, hX, hbl, hK, hA, hAr, hbA⟩ := C
  intro u v H locs ls hu hv hT hP hD hS hl
  refine lv_aload_n hx hb dL_law_477 rfl (lv_at hl 2 rfl) ?_
  refine lv_aload_n hx hb dL_law_478 rfl (lv_at hl 3 rfl) ?_
  refine lv_iload_n hx hb dL_law_479 rfl (lv_at hl 0 rfl) ?_
  refine lv_iconst (v := 1) hx hb dL_law_480 (by decide) ?_
  refine lv_iadd hx hb dL_law_481 ?_
  refine lv_topi (fun y_1 hy_1 => ?_)
  obtain rfl : y_1 = nI (i + 1) := hy_1.trans (nI_add i 1)
  refine va_sld hx hb hX hbl hbA hS (vp_in_nI (by omega) (by omega)) dL_law_482 ?_
  refine lv_aload_n hx hb dL_law_483 rfl (lv_at hl 3 rfl) ?_
  refine lv_iload_n hx hb dL_law_484 rfl (lv_at hl 0 rfl) ?_
  refine lv_iconst (v := 2) hx hb dL_law_485 (by decide) ?_
  refine lv_iadd hx hb dL_law_486 ?_
  refine lv_topi (fun y_2 hy_2 => ?_)
  obtain rfl : y_2 = nI (i + 2) := hy_2.trans (nI_add i 2)
  refine va_sld hx hb hX hbl hbA hS (vp_in_nI (by omega) (by omega)) dL_law_487 ?_
  refine x_callVi (q := (RX11, TX11, 14)) (ci := 11) (q0 := 0) (wr := IM cy m0 v) (rest := []) ⟨hx, hb, hml, hown, hg, hl.1⟩ k_L_53 (tx_said l D cy x0 u hu (xs (nI (i + 1) : Int32).toNatClampNeg) (xs (nI (i + 2) : Int32).toNatClampNeg)) E0_blind hK hP hD hS hA [0, 1, 2, 3, 4, 5, 6, 7, 8, 9, 10, 11, 12, 13, 14, 15, 16, 17, 18, 19, 20, 21, 22, 23, 24, 25, 26, 27, 28, 29, 30, 31, 32, 33, 34, 35, 36, 37, 38, 39, 40, 41, 42, 43, 44, 45, 46, 47, 48, 49, 50, 51, 52, 53, 54, 55, 56, 57, 58, 59, 60, 61, 62, 63, 64, 65, 66, 67, 68, 69, 70, 71, 72, 73, 74, 75, 76, 77, 78, 79, 80, 81, 82, 83, 84, 85, 86, 87, 88, 89, 90, 91, 92, 93] [94, 95, 96, 97, 98, 99, 100, 101, 102, 103, 104, 105, 106, 107, 108, 109, 110, 111, 112, 113, 114, 115, 116, 117, 118, 119, 120, 121, 122, 123, 124, 125, 126, 127, 128, 129, 130, 131, 132, 133, 134, 135, 136, 137, 138, 139, 140, 141] (cutX cy x0 m0 u v) rfl rfl (fun _ _ _ => trivial) dL_law_488 rfl rfl (Nat.le_of_ble_eq_true rfl) ⟨Nat.le_of_ble_eq_true rfl, Nat.le_of_ble_eq_true rfl⟩ ⟨Nat.le_of_ble_eq_true rfl, Nat.le_of_ble_eq_true rfl⟩ (fun r1 u2 H locs hw1 hP9 hD9 hS9 => ?_)
  clear hP hD hS
  have hP := hP9
  have hD := hD9
  have hS := hS9
  clear hP9 hD9 hS9
  refine W.widen (k := 142) (n := 14416) (Nat.le_of_ble_eq_true rfl) (Nat.le_of_ble_eq_true rfl) ?_
  refine lv_pop hx hb dL_law_491 rfl ?_
  refine lv_aload_n hx hb dL_law_492 rfl (lv_at hl 1 rfl) ?_
  refine lv_aload_n hx hb dL_law_493 rfl (lv_at hl 3 rfl) ?_
  refine lv_iload_n hx hb dL_law_494 rfl (lv_at hl 0 rfl) ?_
  refine lv_iconst (v := 1) hx hb dL_law_495 (by decide) ?_
  refine lv_iadd hx hb dL_law_496 ?_
  refine lv_topi (fun y_3 hy_3 => ?_)
  obtain rfl : y_3 = nI (i + 1) := hy_3.trans (nI_add i 1)
  refine va_sld hx hb hX hbl hbA hS (vp_in_nI (by omega) (by omega)) dL_law_497 ?_
  refine lv_aload_n hx hb dL_law_498 rfl (lv_at hl 3 rfl) ?_
  refine lv_iload_n hx hb dL_law_499 rfl (lv_at hl 0 rfl) ?_
  refine lv_iconst (v := 2) hx hb dL_law_500 (by decide) ?_
  refine lv_iadd hx hb dL_law_501 ?_
  refine lv_topi (fun y_4 hy_4 => ?_)
  obtain rfl : y_4 = nI (i + 2) := hy_4.trans (nI_add i 2)
  refine va_sld hx hb hX hbl hbA hS (vp_in_nI (by omega) (by omega)) dL_law_502 ?_
  refine x_callVi (q := (RX12, TX12, 89)) (ci := 12) (q0 := 0) (wr := IX cy x0 u2) (rest := []) ⟨hx, hb, hml, hown, hg, hl.1⟩ k_L_56 (tm_said l D cy m0 v hv (xs (nI (i + 1) : Int32).toNatClampNeg) (xs (nI (i + 2) : Int32).toNatClampNeg)) E0_blind hK hP hD hS hA [0, 1, 2, 3, 4, 5, 6, 7, 8, 9, 10, 11, 12, 13, 14, 15, 16, 17, 18, 19, 20, 21, 22, 23, 24, 25, 26, 27, 28, 29, 30, 31, 32, 33, 34, 35, 36, 37, 38, 39, 40, 41, 42, 43, 44, 45, 46, 47] [48, 49, 50, 51, 52, 53, 54, 55, 56, 57, 58, 59, 60, 61, 62, 63, 64, 65, 66, 67, 68, 69, 70, 71, 72, 73, 74, 75, 76, 77, 78, 79, 80, 81, 82, 83, 84, 85, 86, 87, 88, 89, 90, 91, 92, 93, 94, 95, 96, 97, 98, 99, 100, 101, 102, 103, 104, 105, 106, 107, 108, 109, 110, 111, 112, 113, 114, 115, 116, 117, 118, 119, 120, 121, 122, 123, 124, 125, 126, 127, 128, 129, 130, 131, 132, 133, 134, 135, 136, 137, 138, 139, 140, 141] (cutM cy x0 m0 u2 v) rfl rfl (fun _ _ _ => trivial) dL_law_503 rfl rfl (Nat.le_of_ble_eq_true rfl) ⟨Nat.le_of_ble_eq_true rfl, Nat.le_of_ble_eq_true rfl⟩ ⟨Nat.le_of_ble_eq_true rfl, Nat.le_of_ble_eq_true rfl⟩ (fun r2 v2 H locs hw2 hP9 hD9 hS9 => ?_)
  clear hP hD hS
  have hP := hP9
  have hD := hD9
  have hS := hS9
  clear hP9 hD9 hS9
  refine W.widen (k := 142) (n := 14416) (Nat.le_of_ble_eq_true rfl) (Nat.le_of_ble_eq_true rfl) ?_
  refine lv_pop hx hb dL_law_506 rfl ?_
  refine lv_goto (tgt := 1244) hx hb dL_law_507 (by decide) ?_
  exact hk u2 v2 H locs ls hw1.1 hw2.1 ⟨(sm_d hT.1 hw1.2.1 hw2.2.1), RH_eq hT.2.1 hw1.2.2.1 hw2.2.2.1, RS_eq hT.2.2.1 hw1.2.1.2.1 hw1.2.2.2.1 hw2.2.2.2.1, RMt_of hw1.2.2.2.2.2 hw2.2.2.2.2.2 hT.2.2.2⟩ hP hD hS hl
theorem gdL_law_510 : decode cL_law 510 = .ok (.aload_n 1, 1) ∧ decode cL_law 511 = .ok (.aload_n 0, 1) ∧ decode cL_law 512 = .ok (.iload_n 3, 1) ∧ decode cL_law 513 = .ok (.iconst 1, 1) ∧ decode cL_law 514 = .ok (.iadd, 1) ∧ decode cL_law 515 = .ok (.iaload, 1) ∧ decode cL_law 516 = .ok (.invokevirtual 57, 3) := by decide +kernel
theorem dL_law_510 : decode cL_law 510 = .ok (.aload_n 1, 1) := gdL_law_510.1
theorem dL_law_511 : decode cL_law 511 = .ok (.aload_n 0, 1) := gdL_law_510.2.1
theorem dL_law_512 : decode cL_law 512 = .ok (.iload_n 3, 1) := gdL_law_510.2.2.1
theorem dL_law_513 : decode cL_law 513 = .ok (.iconst 1, 1) := gdL_law_510.2.2.2.1
theorem dL_law_514 : decode cL_law 514 = .ok (.iadd, 1) := gdL_law_510.2.2.2.2.1
theorem dL_law_515 : decode cL_law 515 = .ok (.iaload, 1) := gdL_law_510.2.2.2.2.2.1
theorem dL_law_516 : decode cL_law 516 = .ok (.invokevirtual 57, 3) := gdL_law_510.2.2.2.2.2.2
theorem k_L_57 : xV RL RX11 57 yX11_call cX11_call 3 (some .int) 1 := ⟨⟨m_1001, m_1002, m_1003, m_130, m_1004⟩, rfl, by decide, by decide, by decide +kernel⟩
theorem gdL_law_519 : decode cL_law 519 = .ok (.pop, 1) ∧ decode cL_law 520 = .ok (.aload_n 2, 1) ∧ decode cL_law 521 = .ok (.aload_n 0, 1) ∧ decode cL_law 522 = .ok (.iload_n 3, 1) ∧ decode cL_law 523 = .ok (.iconst 1, 1) ∧ decode cL_law 524 = .ok (.iadd, 1) ∧ decode cL_law 525 = .ok (.iaload, 1) ∧ decode cL_law 526 = .ok (.invokevirtual 60, 3) := by decide +kernel
theorem dL_law_519 : decode cL_law 519 = .ok (.pop, 1) := gdL_law_519.1
theorem dL_law_520 : decode cL_law 520 = .ok (.aload_n 2, 1) := gdL_law_519.2.1
theorem dL_law_521 : decode cL_law 521 = .ok (.aload_n 0, 1) := gdL_law_519.2.2.1
theorem dL_law_522 : decode cL_law 522 = .ok (.iload_n 3, 1) := gdL_law_519.2.2.2.1
theorem dL_law_523 : decode cL_law 523 = .ok (.iconst 1, 1) := gdL_law_519.2.2.2.2.1
theorem dL_law_524 : decode cL_law 524 = .ok (.iadd, 1) := gdL_law_519.2.2.2.2.2.1
theorem dL_law_525 : decode cL_law 525 = .ok (.iaload, 1) := gdL_law_519.2.2.2.2.2.2.1
theorem dL_law_526 : decode cL_law 526 = .ok (.invokevirtual 60, 3) := gdL_law_519.2.2.2.2.2.2.2
theorem k_L_60 : xV RL RX12 60 yX12_call cX12_call 3 (some .int) 1 := ⟨⟨m_1920, m_1921, m_1922, m_146, m_1923⟩, rfl, by decide, by decide, by decide +kernel⟩
theorem dL_law_529 : decode cL_law 529 = .ok (.pop, 1) := by decide +kernel
theorem dL_law_530 : decode cL_law 530 = .ok (.goto 714, 3) := by decide +kernel
set_option maxHeartbeats 4000000 in
set_option maxRecDepth 100000 in
theorem lc_call {p : Program} {e : Env} {s : State} {m : MethodId} {below : List Frame} {meth : Method} {c : Code} (l : Launch) {D : va_G} {cy : Nat → ClassId} {A : Nat → Prop} {b L : Nat} {xs : Nat → Int32} (hL : L ≤ 3072) (C : lwC p s m meth c b L xs D cy A) {adK adV : Nat → Nat} (hE : EV adK adV A s) (x0 m0 : Nat) {i : Nat} (hi : i + 6 ≤ L) (hk : lwW p l e s m below meth c b D cy A x0 m0 i 1244) : lwW p l e s m below meth c b D cy A x0 m0 i 510 := by
  obtain ⟨hx, hb, hr, hml, hown, hg, hlocks, hX, hbl, hK, hA, hAr, hbA⟩ := C
  intro u v H locs ls hu hv hT hP hD hS hl
  refine lv_aload_n hx hb dL_law_510 rfl (lv_at hl 2 rfl) ?_
  refine lv_aload_n hx hb dL_law_511 rfl (lv_at hl 3 rfl) ?_
  refine lv_iload_n hx hb dL_law_512 rfl (lv_at hl 0 rfl) ?_
  refine lv_iconst (v := 1) hx hb dL_law_513 (by decide) ?_
  refine lv_iadd hx hb dL_law_514 ?_
  refine lv_topi (fun y_1 hy_1 => ?_)
  obtain rfl : y_1 = nI (i + 1) := hy_1.trans (nI_add i 1)
  refine va_sld hx hb hX hbl hbA hS (vp_in_nI (by omega) (by omega)) dL_law_515 ?_
  refine x_callVi (q := (RX11, TX11, 14)) (ci := 11) (q0 := 0) (wr := IM cy m0 v) (rest := []) ⟨hx, hb, hml, hown, hg, hl.1⟩ k_L_57 (tx_call l D cy x0 u hu (xs (nI (i + 1) : Int32).toNatClampNeg)) E0_blind hK hP hD hS hA [0, 1, 2, 3, 4, 5, 6, 7, 8, 9, 10, 11, 12, 13, 14, 15, 16, 17, 18, 19, 20, 21, 22, 23, 24, 25, 26, 27, 28, 29, 30, 31, 32, 33, 34, 35, 36, 37, 38, 39, 40, 41, 42, 43, 44, 45, 46, 47, 48, 49, 50, 51, 52, 53, 54, 55, 56, 57, 58, 59, 60, 61, 62, 63, 64, 65, 66, 67, 68, 69, 70, 71, 72, 73, 74, 75, 76, 77, 78, 79, 80, 81, 82, 83, 84, 85, 86, 87, 88, 89, 90, 91, 92, 93] [94, 95, 96, 97, 98, 99, 100, 101, 102, 103, 104, 105, 106, 107, 108, 109, 110, 111, 112, 113, 114, 115, 116, 117, 118, 119, 120, 121, 122, 123, 124, 125, 126, 127, 128, 129, 130, 131, 132, 133, 134, 135, 136, 137, 138, 139, 140, 141] (cutX cy x0 m0 u v) rfl rfl (fun _ _ _ => trivial) dL_law_516 rfl rfl (Nat.le_of_ble_eq_true rfl) ⟨Nat.le_of_ble_eq_true rfl, Nat.le_of_ble_eq_true rfl⟩ ⟨Nat.le_of_ble_eq_true rfl, Nat.le_of_ble_eq_true rfl⟩ (fun r1 u2 H locs hw1 hP9 hD9 hS9 => ?_)
  clear hP hD hS
  have hP := hP9
  have hD := hD9
  have hS := hS9
  clear hP9 hD9 hS9
  refine W.widen (k := 142) (n := 14416) (Nat.le_of_ble_eq_true rfl) (Nat.le_of_ble_eq_true rfl) ?_
  refine lv_pop hx hb dL_law_519 rfl ?_
  refine lv_aload_n hx hb dL_law_520 rfl (lv_at hl 1 rfl) ?_
  refine lv_aload_n hx hb dL_law_521 rfl (lv_at hl 3 rfl) ?_
  refine lv_iload_n hx hb dL_law_522 rfl (lv_at hl 0 rfl) ?_
  refine lv_iconst (v := 1) hx hb dL_law_523 (by decide) ?_
  refine lv_iadd hx hb dL_law_524 ?_
  refine lv_topi (fun y_2 hy_2 => ?_)
  obtain rfl : y_2 = nI (i + 1) := hy_2.trans (nI_add i 1)
  refine va_sld hx hb hX hbl hbA hS (vp_in_nI (by omega) (by omega)) dL_law_525 ?_
  refine x_callVi (q := (RX12, TX12, 89)) (ci := 12) (q0 := 0) (wr := IX cy x0 u2) (rest := []) ⟨hx, hb, hml, hown, hg, hl.1⟩ k_L_60 (tm_call l D cy m0 v hv (xs (nI (i + 1) : Int32).toNatClampNeg)) E0_blind hK hP hD hS hA [0, 1, 2, 3, 4, 5, 6, 7, 8, 9, 10, 11, 12, 13, 14, 15, 16, 17, 18, 19, 20, 21, 22, 23, 24, 25, 26, 27, 28, 29, 30, 31, 32, 33, 34, 35, 36, 37, 38, 39, 40, 41, 42, 43, 44, 45, 46, 47] [48, 49, 50, 51, 52, 53, 54, 55, 56, 57, 58, 59, 60, 61, 62, 63, 64, 65, 66, 67, 68, 69, 70, 71, 72, 73, 74, 75, 76, 77, 78, 79, 80, 81, 82, 83, 84, 85, 86, 87, 88, 89, 90, 91, 92, 93, 94, 95, 96, 97, 98, 99, 100, 101, 102, 103, 104, 105, 106, 107, 108, 109, 110, 111, 112, 113, 114, 115, 116, 117, 118, 119, 120, 121, 122, 123, 124, 125, 126, 127, 128, 129, 130, 131, 132, 133, 134, 135, 136, 137, 138, 139, 140, 141] (cutM cy x0 m0 u2 v) rfl rfl (fun _ _ _ => trivial) dL_law_526 rfl rfl (Nat.le_of_ble_eq_true rfl) ⟨Nat.le_of_ble_eq_true rfl, Nat.le_of_ble_eq_true rfl⟩ ⟨Nat.le_of_ble_eq_true rfl, Nat.le_of_ble_eq_true rfl⟩ (fun r2 v2 H locs hw2 hP9 hD9 hS9 => ?_)
  clear hP hD hS
  have hP := hP9
  have hD := hD9
  have hS := hS9
  clear hP9 hD9 hS9
  refine W.widen (k := 142) (n := 14416) (Nat.le_of_ble_eq_true rfl) (Nat.le_of_ble_eq_true rfl) ?_
  refine lv_pop hx hb dL_law_529 rfl ?_
  refine lv_goto (tgt := 1244) hx hb dL_law_530 (by decide) ?_
  exact hk u2 v2 H locs ls hw1.1 hw2.1 ⟨(sm_d hT.1 hw1.2.1 hw2.2.1), RH_eq hT.2.1 hw1.2.2.1 hw2.2.2.1, RS_eq hT.2.2.1 hw1.2.1.2.1 hw1.2.2.2.1 hw2.2.2.2.1, RMt_of hw1.2.2.2.2.2.2 hw2.2.2.2.2.2.2 (And.intro trivial (ca_same (by decide) hT.2.1.1.2.2.1 hT.2.2.2 hw1.2.2.2.2.2.1 hw2.2.2.2.2.2.1)).2⟩ hP hD hS hl
theorem dL_law_533 : decode cL_law 533 = .ok (.aload_n 1, 1) := by decide +kernel
theorem dL_law_534 : decode cL_law 534 = .ok (.invokevirtual 61, 3) := by decide +kernel
theorem k_L_61 : xV RL RX11 61 yX11_noon cX11_noon 1 (some .int) 0 := ⟨⟨m_1084, m_1085, m_1086, m_130, m_1087⟩, rfl, by decide, by decide, by decide +kernel⟩
theorem dL_law_537 : decode cL_law 537 = .ok (.aload_n 2, 1) := by decide +kernel
theorem dL_law_538 : decode cL_law 538 = .ok (.invokevirtual 64, 3) := by decide +kernel
theorem k_L_64 : xV RL RX12 64 yX12_noon cX12_noon 2 (some .int) 0 := ⟨⟨m_1989, m_1990, m_1991, m_146, m_1992⟩, rfl, by decide, by decide, by decide +kernel⟩
theorem dL_law_541 : decode cL_law 541 = .ok (.if_icmp .eq 703, 3) := by decide +kernel
set_option maxHeartbeats 4000000 in
set_option maxRecDepth 100000 in
theorem lc_noon {p : Program} {e : Env} {s : State} {m : MethodId} {below : List Frame} {meth : Method} {c : Code} (l : Launch) {D : va_G} {cy : Nat → ClassId} {A : Nat → Prop} {b L : Nat} {xs : Nat → Int32} (hL : L ≤ 3072) (C : lwC p s m meth c b L xs D cy A) {adK adV : Nat → Nat} (hE : EV adK adV A s) (x0 m0 : Nat) {i : Nat} (hi : i + 6 ≤ L) (hk : lwW p l e s m below meth c b D cy A x0 m0 i 1244) : lwW p l e s m below meth c b D cy A x0 m0 i 533 := by
  obtain ⟨hx, hb, hr, hml, hown, hg, hlocks, hX, hbl, hK, hA, hAr, hbA⟩ := C
  intro u v H locs ls hu hv hT hP hD hS hl
  refine lv_aload_n hx hb dL_law_533 rfl (lv_at hl 2 rfl) ?_
  refine x_callVi (q := (RX11, TX11, 14)) (ci := 11) (q0 := 0) (wr := IM cy m0 v) (rest := []) ⟨hx, hb, hml, hown, hg, hl.1⟩ k_L_61 (tx_noon l D cy x0 u hu ) E0_blind hK hP hD hS hA [0, 1, 2, 3, 4, 5, 6, 7, 8, 9, 10, 11, 12, 13, 14, 15, 16, 17, 18, 19, 20, 21, 22, 23, 24, 25, 26, 27, 28, 29, 30, 31, 32, 33, 34, 35, 36, 37, 38, 39, 40, 41, 42, 43, 44, 45, 46, 47, 48, 49, 50, 51, 52, 53, 54, 55, 56, 57, 58, 59, 60, 61, 62, 63, 64, 65, 66, 67, 68, 69, 70, 71, 72, 73, 74, 75, 76, 77, 78, 79, 80, 81, 82, 83, 84, 85, 86, 87, 88, 89, 90, 91, 92, 93] [94, 95, 96, 97, 98, 99, 100, 101, 102, 103, 104, 105, 106, 107, 108, 109, 110, 111, 112, 113, 114, 115, 116, 117, 118, 119, 120, 121, 122, 123, 124, 125, 126, 127, 128, 129, 130, 131, 132, 133, 134, 135, 136, 137, 138, 139, 140, 141] (cutX cy x0 m0 u v) rfl rfl (fun _ _ _ => trivial) dL_law_534 rfl rfl (Nat.le_of_ble_eq_true rfl) ⟨Nat.le_of_ble_eq_true rfl, Nat.le_of_ble_eq_true rfl⟩ ⟨Nat.le_of_ble_eq_true rfl, Nat.le_of_ble_eq_true rfl⟩ (fun r1 u2 H locs hw1 hP9 hD9 hS9 => ?_)
  clear hP hD hS
  have hP := hP9
  have hD := hD9
  have hS := hS9
  clear hP9 hD9 hS9
  refine W.widen (k := 142) (n := 14416) (Nat.le_of_ble_eq_true rfl) (Nat.le_of_ble_eq_true rfl) ?_
  refine lv_aload_n hx hb dL_law_537 rfl (lv_at hl 1 rfl) ?_
  refine x_callVi (q := (RX12, TX12, 89)) (ci := 12) (q0 := 0) (wr := IX cy x0 u2) (rest := [.int r1]) ⟨hx, hb, hml, hown, hg, hl.1⟩ k_L_64 (tm_noon l D cy m0 v hv ) E0_blind hK hP hD hS hA [0, 1, 2, 3, 4, 5, 6, 7, 8, 9, 10, 11, 12, 13, 14, 15, 16, 17, 18, 19, 20, 21, 22, 23, 24, 25, 26, 27, 28, 29, 30, 31, 32, 33, 34, 35, 36, 37, 38, 39, 40, 41, 42, 43, 44, 45, 46, 47] [48, 49, 50, 51, 52, 53, 54, 55, 56, 57, 58, 59, 60, 61, 62, 63, 64, 65, 66, 67, 68, 69, 70, 71, 72, 73, 74, 75, 76, 77, 78, 79, 80, 81, 82, 83, 84, 85, 86, 87, 88, 89, 90, 91, 92, 93, 94, 95, 96, 97, 98, 99, 100, 101, 102, 103, 104, 105, 106, 107, 108, 109, 110, 111, 112, 113, 114, 115, 116, 117, 118, 119, 120, 121, 122, 123, 124, 125, 126, 127, 128, 129, 130, 131, 132, 133, 134, 135, 136, 137, 138, 139, 140, 141] (cutM cy x0 m0 u2 v) rfl rfl (fun _ _ _ => trivial) dL_law_538 rfl rfl (Nat.le_of_ble_eq_true rfl) ⟨Nat.le_of_ble_eq_true rfl, Nat.le_of_ble_eq_true rfl⟩ ⟨Nat.le_of_ble_eq_true rfl, Nat.le_of_ble_eq_true rfl⟩ (fun r2 v2 H locs hw2 hP9 hD9 hS9 => ?_)
  clear hP hD hS
  have hP := hP9
  have hD := hD9
  have hS := hS9
  clear hP9 hD9 hS9
  refine W.widen (k := 142) (n := 14416) (Nat.le_of_ble_eq_true rfl) (Nat.le_of_ble_eq_true rfl) ?_
  refine lv_icmp_eq (tgt := 1244) hx hb dL_law_541 (by decide) (fun _ => ?_) (fun h => absurd (no_same (by decide) (Or.inl (by decide)) hT.2.1.1.2.1 hT.2.2.2 hw1.2.2.2.2.2.1 hw2.2.2.2.2.2.1).1 h)
  exact hk u2 v2 H locs ls hw1.1 hw2.1 ⟨(sm_d hT.1 hw1.2.1 hw2.2.1), RH_eq hT.2.1 hw1.2.2.1 hw2.2.2.1, RS_eq hT.2.2.1 hw1.2.1.2.1 hw1.2.2.2.1 hw2.2.2.2.1, RMt_of hw1.2.2.2.2.2.2 hw2.2.2.2.2.2.2 (no_same (by decide) (Or.inl (by decide)) hT.2.1.1.2.1 hT.2.2.2 hw1.2.2.2.2.2.1 hw2.2.2.2.2.2.1).2⟩ hP hD hS hl
theorem gdL_law_546 : decode cL_law 546 = .ok (.aload_n 1, 1) ∧ decode cL_law 547 = .ok (.aload_n 0, 1) ∧ decode cL_law 548 = .ok (.iload_n 3, 1) ∧ decode cL_law 549 = .ok (.iconst 1, 1) ∧ decode cL_law 550 = .ok (.iadd, 1) ∧ decode cL_law 551 = .ok (.iaload, 1) ∧ decode cL_law 552 = .ok (.invokevirtual 65, 3) := by decide +kernel
theorem dL_law_546 : decode cL_law 546 = .ok (.aload_n 1, 1) := gdL_law_546.1
theorem dL_law_547 : decode cL_law 547 = .ok (.aload_n 0, 1) := gdL_law_546.2.1
theorem dL_law_548 : decode cL_law 548 = .ok (.iload_n 3, 1) := gdL_law_546.2.2.1
theorem dL_law_549 : decode cL_law 549 = .ok (.iconst 1, 1) := gdL_law_546.2.2.2.1
theorem dL_law_550 : decode cL_law 550 = .ok (.iadd, 1) := gdL_law_546.2.2.2.2.1
theorem dL_law_551 : decode cL_law 551 = .ok (.iaload, 1) := gdL_law_546.2.2.2.2.2.1
theorem dL_law_552 : decode cL_law 552 = .ok (.invokevirtual 65, 3) := gdL_law_546.2.2.2.2.2.2
theorem k_L_65 : xV RL RX11 65 yX11_sweep cX11_sweep 2 (some .int) 1 := ⟨⟨m_1092, m_1093, m_1094, m_130, m_1095⟩, rfl, by decide, by decide, by decide +kernel⟩
theorem gdL_law_555 : decode cL_law 555 = .ok (.pop, 1) ∧ decode cL_law 556 = .ok (.aload_n 2, 1) ∧ decode cL_law 557 = .ok (.aload_n 0, 1) ∧ decode cL_law 558 = .ok (.iload_n 3, 1) ∧ decode cL_law 559 = .ok (.iconst 1, 1) ∧ decode cL_law 560 = .ok (.iadd, 1) ∧ decode cL_law 561 = .ok (.iaload, 1) ∧ decode cL_law 562 = .ok (.invokevirtual 68, 3) := by decide +kernel
theorem dL_law_555 : decode cL_law 555 = .ok (.pop, 1) := gdL_law_555.1
theorem dL_law_556 : decode cL_law 556 = .ok (.aload_n 2, 1) := gdL_law_555.2.1
theorem dL_law_557 : decode cL_law 557 = .ok (.aload_n 0, 1) := gdL_law_555.2.2.1
theorem dL_law_558 : decode cL_law 558 = .ok (.iload_n 3, 1) := gdL_law_555.2.2.2.1
theorem dL_law_559 : decode cL_law 559 = .ok (.iconst 1, 1) := gdL_law_555.2.2.2.2.1
theorem dL_law_560 : decode cL_law 560 = .ok (.iadd, 1) := gdL_law_555.2.2.2.2.2.1
theorem dL_law_561 : decode cL_law 561 = .ok (.iaload, 1) := gdL_law_555.2.2.2.2.2.2.1
theorem dL_law_562 : decode cL_law 562 = .ok (.invokevirtual 68, 3) := gdL_law_555.2.2.2.2.2.2.2
theorem k_L_68 : xV RL RX12 68 yX12_sweep cX12_sweep 3 (some .int) 1 := ⟨⟨m_1993, m_1994, m_1995, m_146, m_1996⟩, rfl, by decide, by decide, by decide +kernel⟩
theorem dL_law_565 : decode cL_law 565 = .ok (.pop, 1) := by decide +kernel
theorem dL_law_566 : decode cL_law 566 = .ok (.goto 678, 3) := by decide +kernel
set_option maxHeartbeats 4000000 in
set_option maxRecDepth 100000 in
theorem lc_sweep {p : Program} {e : Env} {s : State} {m : MethodId} {below : List Frame} {meth : Method} {c : Code} (l : Launch) {D : va_G} {cy : Nat → ClassId} {A : Nat → Prop} {b L : Nat} {xs : Nat → Int32} (hL : L ≤ 3072) (C : lwC p s m meth c b L xs D cy A) {adK adV : Nat → Nat} (hE : EV adK adV A s) (x0 m0 : Nat) {i : Nat} (hi : i + 6 ≤ L) (hk : lwW p l e s m below meth c b D cy A x0 m0 i 1244) : lwW p l e s m below meth c b D cy A x0 m0 i 546 := by
  obtain ⟨hx, hb, hr, hml, hown, hg, hlocks, hX, hbl, hK, hA, hAr, hbA⟩ := C
  intro u v H locs ls hu hv hT hP hD hS hl
  refine lv_aload_n hx hb dL_law_546 rfl (lv_at hl 2 rfl) ?_
  refine lv_aload_n hx hb dL_law_547 rfl (lv_at hl 3 rfl) ?_
  refine lv_iload_n hx hb dL_law_548 rfl (lv_at hl 0 rfl) ?_
  refine lv_iconst (v := 1) hx hb dL_law_549 (by decide) ?_
  refine lv_iadd hx hb dL_law_550 ?_
  refine lv_topi (fun y_1 hy_1 => ?_)
  obtain rfl : y_1 = nI (i + 1) := hy_1.trans (nI_add i 1)
  refine va_sld hx hb hX hbl hbA hS (vp_in_nI (by omega) (by omega)) dL_law_551 ?_
  refine x_callVi (q := (RX11, TX11, 14)) (ci := 11) (q0 := 0) (wr := IM cy m0 v) (rest := []) ⟨hx, hb, hml, hown, hg, hl.1⟩ k_L_65 (tx_sweep l D cy x0 u hu (xs (nI (i + 1) : Int32).toNatClampNeg)) E0_blind hK hP hD hS hA [0, 1, 2, 3, 4, 5, 6, 7, 8, 9, 10, 11, 12, 13, 14, 15, 16, 17, 18, 19, 20, 21, 22, 23, 24, 25, 26, 27, 28, 29, 30, 31, 32, 33, 34, 35, 36, 37, 38, 39, 40, 41, 42, 43, 44, 45, 46, 47, 48, 49, 50, 51, 52, 53, 54, 55, 56, 57, 58, 59, 60, 61, 62, 63, 64, 65, 66, 67, 68, 69, 70, 71, 72, 73, 74, 75, 76, 77, 78, 79, 80, 81, 82, 83, 84, 85, 86, 87, 88, 89, 90, 91, 92, 93] [94, 95, 96, 97, 98, 99, 100, 101, 102, 103, 104, 105, 106, 107, 108, 109, 110, 111, 112, 113, 114, 115, 116, 117, 118, 119, 120, 121, 122, 123, 124, 125, 126, 127, 128, 129, 130, 131, 132, 133, 134, 135, 136, 137, 138, 139, 140, 141] (cutX cy x0 m0 u v) rfl rfl (fun _ _ _ => trivial) dL_law_552 rfl rfl (Nat.le_of_ble_eq_true rfl) ⟨Nat.le_of_ble_eq_true rfl, Nat.le_of_ble_eq_true rfl⟩ ⟨Nat.le_of_ble_eq_true rfl, Nat.le_of_ble_eq_true rfl⟩ (fun r1 u2 H locs hw1 hP9 hD9 hS9 => ?_)
  clear hP hD hS
  have hP := hP9
  have hD := hD9
  have hS := hS9
  clear hP9 hD9 hS9
  refine W.widen (k := 142) (n := 14416) (Nat.le_of_ble_eq_true rfl) (Nat.le_of_ble_eq_true rfl) ?_
  refine lv_pop hx hb dL_law_555 rfl ?_
  refine lv_aload_n hx hb dL_law_556 rfl (lv_at hl 1 rfl) ?_
  refine lv_aload_n hx hb dL_law_557 rfl (lv_at hl 3 rfl) ?_
  refine lv_iload_n hx hb dL_law_558 rfl (lv_at hl 0 rfl) ?_
  refine lv_iconst (v := 1) hx hb dL_law_559 (by decide) ?_
  refine lv_iadd hx hb dL_law_560 ?_
  refine lv_topi (fun y_2 hy_2 => ?_)
  obtain rfl : y_2 = nI (i + 1) := hy_2.trans (nI_add i 1)
  refine va_sld hx hb hX hbl hbA hS (vp_in_nI (by omega) (by omega)) dL_law_561 ?_
  refine x_callVi (q := (RX12, TX12, 89)) (ci := 12) (q0 := 0) (wr := IX cy x0 u2) (rest := []) ⟨hx, hb, hml, hown, hg, hl.1⟩ k_L_68 (tm_sweep l D cy m0 v hv (xs (nI (i + 1) : Int32).toNatClampNeg)) E0_blind hK hP hD hS hA [0, 1, 2, 3, 4, 5, 6, 7, 8, 9, 10, 11, 12, 13, 14, 15, 16, 17, 18, 19, 20, 21, 22, 23, 24, 25, 26, 27, 28, 29, 30, 31, 32, 33, 34, 35, 36, 37, 38, 39, 40, 41, 42, 43, 44, 45, 46, 47] [48, 49, 50, 51, 52, 53, 54, 55, 56, 57, 58, 59, 60, 61, 62, 63, 64, 65, 66, 67, 68, 69, 70, 71, 72, 73, 74, 75, 76, 77, 78, 79, 80, 81, 82, 83, 84, 85, 86, 87, 88, 89, 90, 91, 92, 93, 94, 95, 96, 97, 98, 99, 100, 101, 102, 103, 104, 105, 106, 107, 108, 109, 110, 111, 112, 113, 114, 115, 116, 117, 118, 119, 120, 121, 122, 123, 124, 125, 126, 127, 128, 129, 130, 131, 132, 133, 134, 135, 136, 137, 138, 139, 140, 141] (cutM cy x0 m0 u2 v) rfl rfl (fun _ _ _ => trivial) dL_law_562 rfl rfl (Nat.le_of_ble_eq_true rfl) ⟨Nat.le_of_ble_eq_true rfl, Nat.le_of_ble_eq_true rfl⟩ ⟨Nat.le_of_ble_eq_true rfl, Nat.le_of_ble_eq_true rfl⟩ (fun r2 v2 H locs hw2 hP9 hD9 hS9 => ?_)
  clear hP hD hS
  have hP := hP9
  have hD := hD9
  have hS := hS9
  clear hP9 hD9 hS9
  refine W.widen (k := 142) (n := 14416) (Nat.le_of_ble_eq_true rfl) (Nat.le_of_ble_eq_true rfl) ?_
  refine lv_pop hx hb dL_law_565 rfl ?_
  refine lv_goto (tgt := 1244) hx hb dL_law_566 (by decide) ?_
  exact hk u2 v2 H locs ls hw1.1 hw2.1 ⟨(sm_d hT.1 hw1.2.1 hw2.2.1), RH_eq hT.2.1 hw1.2.2.1 hw2.2.2.1, RS_eq hT.2.2.1 hw1.2.1.2.1 hw1.2.2.2.1 hw2.2.2.2.1, RMt_of hw1.2.2.2.2.2.2 hw2.2.2.2.2.2.2 (sw_same (by decide) (by decide) hT.2.1.1.2.1 hu.2.2.2.1 hT.2.2.2 hw1.2.2.2.2.2.1 hw2.2.2.2.2.2.1).2⟩ hP hD hS hl
theorem dL_law_569 : decode cL_law 569 = .ok (.aload_n 1, 1) := by decide +kernel
theorem dL_law_570 : decode cL_law 570 = .ok (.invokevirtual 69, 3) := by decide +kernel
theorem k_L_69 : xV RL RX11 69 yX11_undo cX11_undo 1 (some .boolean) 0 := ⟨⟨m_1100, m_1101, m_1102, m_130, m_1103⟩, rfl, by decide, by decide, by decide +kernel⟩
theorem gdL_law_573 : decode cL_law 573 = .ok (.pop, 1) ∧ decode cL_law 574 = .ok (.aload_n 2, 1) ∧ decode cL_law 575 = .ok (.invokevirtual 73, 3) := by decide +kernel
theorem dL_law_573 : decode cL_law 573 = .ok (.pop, 1) := gdL_law_573.1
theorem dL_law_574 : decode cL_law 574 = .ok (.aload_n 2, 1) := gdL_law_573.2.1
theorem dL_law_575 : decode cL_law 575 = .ok (.invokevirtual 73, 3) := gdL_law_573.2.2
theorem k_L_73 : xV RL RX12 73 yX12_undo cX12_undo 1 (some .boolean) 0 := ⟨⟨m_1997, m_1998, m_1999, m_146, m_2000⟩, rfl, by decide, by decide, by decide +kernel⟩
theorem dL_law_578 : decode cL_law 578 = .ok (.pop, 1) := by decide +kernel
theorem dL_law_579 : decode cL_law 579 = .ok (.goto 665, 3) := by decide +kernel
set_option maxHeartbeats 4000000 in
set_option maxRecDepth 100000 in
theorem lc_undo {p : Program} {e : Env} {s : State} {m : MethodId} {below : List Frame} {meth : Method} {c : Code} (l : Launch) {D : va_G} {cy : Nat → ClassId} {A : Nat → Prop} {b L : Nat} {xs : Nat → Int32} (hL : L ≤ 3072) (C : lwC p s m meth c b L xs D cy A) {adK adV : Nat → Nat} (hE : EV adK adV A s) (x0 m0 : Nat) {i : Nat} (hi : i + 6 ≤ L) (hk : lwW p l e s m below meth c b D cy A x0 m0 i 1244) : lwW p l e s m below meth c b D cy A x0 m0 i 569 := by
  obtain ⟨hx, hb, hr, hml, hown, hg, hlocks, hX, hbl, hK, hA, hAr, hbA⟩ := C
  intro u v H locs ls hu hv hT hP hD hS hl
  refine lv_aload_n hx hb dL_law_569 rfl (lv_at hl 2 rfl) ?_
  refine x_callVi (q := (RX11, TX11, 14)) (ci := 11) (q0 := 0) (wr := IM cy m0 v) (rest := []) ⟨hx, hb, hml, hown, hg, hl.1⟩ k_L_69 (tx_undo l D cy x0 u hu ) E0_blind hK hP hD hS hA [0, 1, 2, 3, 4, 5, 6, 7, 8, 9, 10, 11, 12, 13, 14, 15, 16, 17, 18, 19, 20, 21, 22, 23, 24, 25, 26, 27, 28, 29, 30, 31, 32, 33, 34, 35, 36, 37, 38, 39, 40, 41, 42, 43, 44, 45, 46, 47, 48, 49, 50, 51, 52, 53, 54, 55, 56, 57, 58, 59, 60, 61, 62, 63, 64, 65, 66, 67, 68, 69, 70, 71, 72, 73, 74, 75, 76, 77, 78, 79, 80, 81, 82, 83, 84, 85, 86, 87, 88, 89, 90, 91, 92, 93] [94, 95, 96, 97, 98, 99, 100, 101, 102, 103, 104, 105, 106, 107, 108, 109, 110, 111, 112, 113, 114, 115, 116, 117, 118, 119, 120, 121, 122, 123, 124, 125, 126, 127, 128, 129, 130, 131, 132, 133, 134, 135, 136, 137, 138, 139, 140, 141] (cutX cy x0 m0 u v) rfl rfl (fun _ _ _ => trivial) dL_law_570 rfl rfl (Nat.le_of_ble_eq_true rfl) ⟨Nat.le_of_ble_eq_true rfl, Nat.le_of_ble_eq_true rfl⟩ ⟨Nat.le_of_ble_eq_true rfl, Nat.le_of_ble_eq_true rfl⟩ (fun r1 u2 H locs hw1 hP9 hD9 hS9 => ?_)
  clear hP hD hS
  have hP := hP9
  have hD := hD9
  have hS := hS9
  clear hP9 hD9 hS9
  refine W.widen (k := 142) (n := 14416) (Nat.le_of_ble_eq_true rfl) (Nat.le_of_ble_eq_true rfl) ?_
  refine lv_pop hx hb dL_law_573 rfl ?_
  refine lv_aload_n hx hb dL_law_574 rfl (lv_at hl 1 rfl) ?_
  refine x_callVi (q := (RX12, TX12, 89)) (ci := 12) (q0 := 0) (wr := IX cy x0 u2) (rest := []) ⟨hx, hb, hml, hown, hg, hl.1⟩ k_L_73 (tm_undo l D cy m0 v hv ) E0_blind hK hP hD hS hA [0, 1, 2, 3, 4, 5, 6, 7, 8, 9, 10, 11, 12, 13, 14, 15, 16, 17, 18, 19, 20, 21, 22, 23, 24, 25, 26, 27, 28, 29, 30, 31, 32, 33, 34, 35, 36, 37, 38, 39, 40, 41, 42, 43, 44, 45, 46, 47] [48, 49, 50, 51, 52, 53, 54, 55, 56, 57, 58, 59, 60, 61, 62, 63, 64, 65, 66, 67, 68, 69, 70, 71, 72, 73, 74, 75, 76, 77, 78, 79, 80, 81, 82, 83, 84, 85, 86, 87, 88, 89, 90, 91, 92, 93, 94, 95, 96, 97, 98, 99, 100, 101, 102, 103, 104, 105, 106, 107, 108, 109, 110, 111, 112, 113, 114, 115, 116, 117, 118, 119, 120, 121, 122, 123, 124, 125, 126, 127, 128, 129, 130, 131, 132, 133, 134, 135, 136, 137, 138, 139, 140, 141] (cutM cy x0 m0 u2 v) rfl rfl (fun _ _ _ => trivial) dL_law_575 rfl rfl (Nat.le_of_ble_eq_true rfl) ⟨Nat.le_of_ble_eq_true rfl, Nat.le_of_ble_eq_true rfl⟩ ⟨Nat.le_of_ble_eq_true rfl, Nat.le_of_ble_eq_true rfl⟩ (fun r2 v2 H locs hw2 hP9 hD9 hS9 => ?_)
  clear hP hD hS
  have hP := hP9
  have hD := hD9
  have hS := hS9
  clear hP9 hD9 hS9
  refine W.widen (k := 142) (n := 14416) (Nat.le_of_ble_eq_true rfl) (Nat.le_of_ble_eq_true rfl) ?_
  refine lv_pop hx hb dL_law_578 rfl ?_
  refine lv_goto (tgt := 1244) hx hb dL_law_579 (by decide) ?_
  exact hk u2 v2 H locs ls hw1.1 hw2.1 ⟨(sm_d hT.1 hw1.2.1 hw2.2.1), RH_eq hT.2.1 hw1.2.2.1 hw2.2.2.1, RS_eq hT.2.2.1 hw1.2.1.2.1 hw1.2.2.2.1 hw2.2.2.2.1, RMt_of hw1.2.2.2.2.2.2 hw2.2.2.2.2.2.2 (ub_same (by decide) hT.2.2.2 hw1.2.2.2.2.2.1 hw2.2.2.2.2.2.1).2⟩ hP hD hS hl
theorem dL_law_582 : decode cL_law 582 = .ok (.aload_n 1, 1) := by decide +kernel
theorem dL_law_583 : decode cL_law 583 = .ok (.invokevirtual 74, 3) := by decide +kernel
theorem k_L_74 : xV RL RX11 74 yX11_redo cX11_redo 1 (some .boolean) 0 := ⟨⟨m_1112, m_1113, m_1114, m_130, m_1115⟩, rfl, by decide, by decide, by decide +kernel⟩
theorem gdL_law_586 : decode cL_law 586 = .ok (.pop, 1) ∧ decode cL_law 587 = .ok (.aload_n 2, 1) ∧ decode cL_law 588 = .ok (.invokevirtual 77, 3) := by decide +kernel
theorem dL_law_586 : decode cL_law 586 = .ok (.pop, 1) := gdL_law_586.1
theorem dL_law_587 : decode cL_law 587 = .ok (.aload_n 2, 1) := gdL_law_586.2.1
theorem dL_law_588 : decode cL_law 588 = .ok (.invokevirtual 77, 3) := gdL_law_586.2.2
theorem k_L_77 : xV RL RX12 77 yX12_redo cX12_redo 1 (some .boolean) 0 := ⟨⟨m_2005, m_2006, m_2007, m_146, m_2008⟩, rfl, by decide, by decide, by decide +kernel⟩
theorem dL_law_591 : decode cL_law 591 = .ok (.pop, 1) := by decide +kernel
theorem dL_law_592 : decode cL_law 592 = .ok (.goto 652, 3) := by decide +kernel
set_option maxHeartbeats 4000000 in
set_option maxRecDepth 100000 in
theorem lc_redo {p : Program} {e : Env} {s : State} {m : MethodId} {below : List Frame} {meth : Method} {c : Code} (l : Launch) {D : va_G} {cy : Nat → ClassId} {A : Nat → Prop} {b L : Nat} {xs : Nat → Int32} (hL : L ≤ 3072) (C : lwC p s m meth c b L xs D cy A) {adK adV : Nat → Nat} (hE : EV adK adV A s) (x0 m0 : Nat) {i : Nat} (hi : i + 6 ≤ L) (hk : lwW p l e s m below meth c b D cy A x0 m0 i 1244) : lwW p l e s m below meth c b D cy A x0 m0 i 582 := by
  obtain ⟨hx, hb, hr, hml, hown, hg, hlocks, hX, hbl, hK, hA, hAr, hbA⟩ := C
  intro u v H locs ls hu hv hT hP hD hS hl
  refine lv_aload_n hx hb dL_law_582 rfl (lv_at hl 2 rfl) ?_
  refine x_callVi (q := (RX11, TX11, 14)) (ci := 11) (q0 := 0) (wr := IM cy m0 v) (rest := []) ⟨hx, hb, hml, hown, hg, hl.1⟩ k_L_74 (tx_redo l D cy x0 u hu ) E0_blind hK hP hD hS hA [0, 1, 2, 3, 4, 5, 6, 7, 8, 9, 10, 11, 12, 13, 14, 15, 16, 17, 18, 19, 20, 21, 22, 23, 24, 25, 26, 27, 28, 29, 30, 31, 32, 33, 34, 35, 36, 37, 38, 39, 40, 41, 42, 43, 44, 45, 46, 47, 48, 49, 50, 51, 52, 53, 54, 55, 56, 57, 58, 59, 60, 61, 62, 63, 64, 65, 66, 67, 68, 69, 70, 71, 72, 73, 74, 75, 76, 77, 78, 79, 80, 81, 82, 83, 84, 85, 86, 87, 88, 89, 90, 91, 92, 93] [94, 95, 96, 97, 98, 99, 100, 101, 102, 103, 104, 105, 106, 107, 108, 109, 110, 111, 112, 113, 114, 115, 116, 117, 118, 119, 120, 121, 122, 123, 124, 125, 126, 127, 128, 129, 130, 131, 132, 133, 134, 135, 136, 137, 138, 139, 140, 141] (cutX cy x0 m0 u v) rfl rfl (fun _ _ _ => trivial) dL_law_583 rfl rfl (Nat.le_of_ble_eq_true rfl) ⟨Nat.le_of_ble_eq_true rfl, Nat.le_of_ble_eq_true rfl⟩ ⟨Nat.le_of_ble_eq_true rfl, Nat.le_of_ble_eq_true rfl⟩ (fun r1 u2 H locs hw1 hP9 hD9 hS9 => ?_)
  clear hP hD hS
  have hP := hP9
  have hD := hD9
  have hS := hS9
  clear hP9 hD9 hS9
  refine W.widen (k := 142) (n := 14416) (Nat.le_of_ble_eq_true rfl) (Nat.le_of_ble_eq_true rfl) ?_
  refine lv_pop hx hb dL_law_586 rfl ?_
  refine lv_aload_n hx hb dL_law_587 rfl (lv_at hl 1 rfl) ?_
  refine x_callVi (q := (RX12, TX12, 89)) (ci := 12) (q0 := 0) (wr := IX cy x0 u2) (rest := []) ⟨hx, hb, hml, hown, hg, hl.1⟩ k_L_77 (tm_redo l D cy m0 v hv ) E0_blind hK hP hD hS hA [0, 1, 2, 3, 4, 5, 6, 7, 8, 9, 10, 11, 12, 13, 14, 15, 16, 17, 18, 19, 20, 21, 22, 23, 24, 25, 26, 27, 28, 29, 30, 31, 32, 33, 34, 35, 36, 37, 38, 39, 40, 41, 42, 43, 44, 45, 46, 47] [48, 49, 50, 51, 52, 53, 54, 55, 56, 57, 58, 59, 60, 61, 62, 63, 64, 65, 66, 67, 68, 69, 70, 71, 72, 73, 74, 75, 76, 77, 78, 79, 80, 81, 82, 83, 84, 85, 86, 87, 88, 89, 90, 91, 92, 93, 94, 95, 96, 97, 98, 99, 100, 101, 102, 103, 104, 105, 106, 107, 108, 109, 110, 111, 112, 113, 114, 115, 116, 117, 118, 119, 120, 121, 122, 123, 124, 125, 126, 127, 128, 129, 130, 131, 132, 133, 134, 135, 136, 137, 138, 139, 140, 141] (cutM cy x0 m0 u2 v) rfl rfl (fun _ _ _ => trivial) dL_law_588 rfl rfl (Nat.le_of_ble_eq_true rfl) ⟨Nat.le_of_ble_eq_true rfl, Nat.le_of_ble_eq_true rfl⟩ ⟨Nat.le_of_ble_eq_true rfl, Nat.le_of_ble_eq_true rfl⟩ (fun r2 v2 H locs hw2 hP9 hD9 hS9 => ?_)
  clear hP hD hS
  have hP := hP9
  have hD := hD9
  have hS := hS9
  clear hP9 hD9 hS9
  refine W.widen (k := 142) (n := 14416) (Nat.le_of_ble_eq_true rfl) (Nat.le_of_ble_eq_true rfl) ?_
  refine lv_pop hx hb dL_law_591 rfl ?_
  refine lv_goto (tgt := 1244) hx hb dL_law_592 (by decide) ?_
  exact hk u2 v2 H locs ls hw1.1 hw2.1 ⟨(sm_d hT.1 hw1.2.1 hw2.2.1), RH_eq hT.2.1 hw1.2.2.1 hw2.2.2.1, RS_eq hT.2.2.1 hw1.2.1.2.1 hw1.2.2.2.1 hw2.2.2.2.1, RMt_of hw1.2.2.2.2.2.2 hw2.2.2.2.2.2.2 (on_same (by decide) hT.2.2.2 hw1.2.2.2.2.2.1 hw2.2.2.2.2.2.1).2⟩ hP hD hS hl
theorem gdL_law_595 : decode cL_law 595 = .ok (.aload_n 1, 1) ∧ decode cL_law 596 = .ok (.aload_n 0, 1) ∧ decode cL_law 597 = .ok (.iload_n 3, 1) ∧ decode cL_law 598 = .ok (.iconst 1, 1) ∧ decode cL_law 599 = .ok (.iadd, 1) ∧ decode cL_law 600 = .ok (.iaload, 1) ∧ decode cL_law 601 = .ok (.aload_n 0, 1) ∧ decode cL_law 602 = .ok (.iload_n 3, 1) ∧ decode cL_law 603 = .ok (.iconst 2, 1) ∧ decode cL_law 604 = .ok (.iadd, 1) ∧ decode cL_law 605 = .ok (.iaload, 1) ∧ decode cL_law 606 = .ok (.invokevirtual 78, 3) := by decide +kernel
theorem dL_law_595 : decode cL_law 595 = .ok (.aload_n 1, 1) := gdL_law_595.1
theorem dL_law_596 : decode cL_law 596 = .ok (.aload_n 0, 1) := gdL_law_595.2.1
theorem dL_law_597 : decode cL_law 597 = .ok (.iload_n 3, 1) := gdL_law_595.2.2.1
theorem dL_law_598 : decode cL_law 598 = .ok (.iconst 1, 1) := gdL_law_595.2.2.2.1
theorem dL_law_599 : decode cL_law 599 = .ok (.iadd, 1) := gdL_law_595.2.2.2.2.1
theorem dL_law_600 : decode cL_law 600 = .ok (.iaload, 1) := gdL_law_595.2.2.2.2.2.1
theorem dL_law_601 : decode cL_law 601 = .ok (.aload_n 0, 1) := gdL_law_595.2.2.2.2.2.2.1
theorem dL_law_602 : decode cL_law 602 = .ok (.iload_n 3, 1) := gdL_law_595.2.2.2.2.2.2.2.1
theorem dL_law_603 : decode cL_law 603 = .ok (.iconst 2, 1) := gdL_law_595.2.2.2.2.2.2.2.2.1
theorem dL_law_604 : decode cL_law 604 = .ok (.iadd, 1) := gdL_law_595.2.2.2.2.2.2.2.2.2.1
theorem dL_law_605 : decode cL_law 605 = .ok (.iaload, 1) := gdL_law_595.2.2.2.2.2.2.2.2.2.2.1
theorem dL_law_606 : decode cL_law 606 = .ok (.invokevirtual 78, 3) := gdL_law_595.2.2.2.2.2.2.2.2.2.2.2
theorem k_L_78 : xV RL RX11 78 yX11_echo cX11_echo 4 (some .int) 2 := ⟨⟨m_1120, m_1121, m_1122, m_130, m_1123⟩, rfl, by decide, by decide, by decide +kernel⟩
theorem gdL_law_609 : decode cL_law 609 = .ok (.pop, 1) ∧ decode cL_law 610 = .ok (.aload_n 2, 1) ∧ decode cL_law 611 = .ok (.aload_n 0, 1) ∧ decode cL_law 612 = .ok (.iload_n 3, 1) ∧ decode cL_law 613 = .ok (.iconst 1, 1) ∧ decode cL_law 614 = .ok (.iadd, 1) ∧ decode cL_law 615 = .ok (.iaload, 1) ∧ decode cL_law 616 = .ok (.aload_n 0, 1) ∧ decode cL_law 617 = .ok (.iload_n 3, 1) ∧ decode cL_law 618 = .ok (.iconst 2, 1) ∧ decode cL_law 619 = .ok (.iadd, 1) ∧ decode cL_law 620 = .ok (.iaload, 1) := by decide +kernel
theorem dL_law_609 : decode cL_law 609 = .ok (.pop, 1) := gdL_law_609.1
theorem dL_law_610 : decode cL_law 610 = .ok (.aload_n 2, 1) := gdL_law_609.2.1
theorem dL_law_611 : decode cL_law 611 = .ok (.aload_n 0, 1) := gdL_law_609.2.2.1
theorem dL_law_612 : decode cL_law 612 = .ok (.iload_n 3, 1) := gdL_law_609.2.2.2.1
theorem dL_law_613 : decode cL_law 613 = .ok (.iconst 1, 1) := gdL_law_609.2.2.2.2.1
theorem dL_law_614 : decode cL_law 614 = .ok (.iadd, 1) := gdL_law_609.2.2.2.2.2.1
theorem dL_law_615 : decode cL_law 615 = .ok (.iaload, 1) := gdL_law_609.2.2.2.2.2.2.1
theorem dL_law_616 : decode cL_law 616 = .ok (.aload_n 0, 1) := gdL_law_609.2.2.2.2.2.2.2.1
theorem dL_law_617 : decode cL_law 617 = .ok (.iload_n 3, 1) := gdL_law_609.2.2.2.2.2.2.2.2.1
theorem dL_law_618 : decode cL_law 618 = .ok (.iconst 2, 1) := gdL_law_609.2.2.2.2.2.2.2.2.2.1
theorem dL_law_619 : decode cL_law 619 = .ok (.iadd, 1) := gdL_law_609.2.2.2.2.2.2.2.2.2.2.1
theorem dL_law_620 : decode cL_law 620 = .ok (.iaload, 1) := gdL_law_609.2.2.2.2.2.2.2.2.2.2.2
theorem dL_law_621 : decode cL_law 621 = .ok (.invokevirtual 81, 3) := by decide +kernel
theorem k_L_81 : xV RL RX12 81 yX12_echo cX12_echo 4 (some .int) 2 := ⟨⟨m_2009, m_2010, m_2011, m_146, m_2012⟩, rfl, by decide, by decide, by decide +kernel⟩
theorem dL_law_624 : decode cL_law 624 = .ok (.pop, 1) := by decide +kernel
theorem dL_law_625 : decode cL_law 625 = .ok (.goto 619, 3) := by decide +kernel
set_option maxHeartbeats 4000000 in
set_option maxRecDepth 100000 in
theorem lc_echo {p : Program} {e : Env} {s : State} {m : MethodId} {below : List Frame} {meth : Method} {c : Code} (l : Launch) {D : va_G} {cy : Nat → ClassId} {A : Nat → Prop} {b L : Nat} {xs : Nat → Int32} (hL : L ≤ 3072) (C : lwC p s m meth c b L xs D cy A) {adK adV : Nat → Nat} (hE : EV adK adV A s) (x0 m0 : Nat) {i : Nat} (hi : i + 6 ≤ L) (hk : lwW p l e s m below meth c b D cy A x0 m0 i 1244) : lwW p l e s m below meth c b D cy A x0 m0 i 595 := by
  obtain ⟨hx, hb, hr, hml, hown, hg, hlocks, hX, hbl, hK, hA, hAr, hbA⟩ := C
  intro u v H locs ls hu hv hT hP hD hS hl
  refine lv_aload_n hx hb dL_law_595 rfl (lv_at hl 2 rfl) ?_
  refine lv_aload_n hx hb dL_law_596 rfl (lv_at hl 3 rfl) ?_
  refine lv_iload_n hx hb dL_law_597 rfl (lv_at hl 0 rfl) ?_
  refine lv_iconst (v := 1) hx hb dL_law_598 (by decide) ?_
  refine lv_iadd hx hb dL_law_599 ?_
  refine lv_topi (fun y_1 hy_1 => ?_)
  obtain rfl : y_1 = nI (i + 1) := hy_1.trans (nI_add i 1)
  refine va_sld hx hb hX hbl hbA hS (vp_in_nI (by omega) (by omega)) dL_law_600 ?_
  refine lv_aload_n hx hb dL_law_601 rfl (lv_at hl 3 rfl) ?_
  refine lv_iload_n hx hb dL_law_602 rfl (lv_at hl 0 rfl) ?_
  refine lv_iconst (v := 2) hx hb dL_law_603 (by decide) ?_
  refine lv_iadd hx hb dL_law_604 ?_
  refine lv_topi (fun y_2 hy_2 => ?_)
  obtain rfl : y_2 = nI (i + 2) := hy_2.trans (nI_add i 2)
  refine va_sld hx hb hX hbl hbA hS (vp_in_nI (by omega) (by omega)) dL_law_605 ?_
  refine x_callVi (q := (RX11, TX11, 14)) (ci := 11) (q0 := 0) (wr := IM cy m0 v) (rest := []) ⟨hx, hb, hml, hown, hg, hl.1⟩ k_L_78 (tx_echo l D cy x0 u hu (xs (nI (i + 1) : Int32).toNatClampNeg) (xs (nI (i + 2) : Int32).toNatClampNeg)) E0_blind hK hP hD hS hA [0, 1, 2, 3, 4, 5, 6, 7, 8, 9, 10, 11, 12, 13, 14, 15, 16, 17, 18, 19, 20, 21, 22, 23, 24, 25, 26, 27, 28, 29, 30, 31, 32, 33, 34, 35, 36, 37, 38, 39, 40, 41, 42, 43, 44, 45, 46, 47, 48, 49, 50, 51, 52, 53, 54, 55, 56, 57, 58, 59, 60, 61, 62, 63, 64, 65, 66, 67, 68, 69, 70, 71, 72, 73, 74, 75, 76, 77, 78, 79, 80, 81, 82, 83, 84, 85, 86, 87, 88, 89, 90, 91, 92, 93] [94, 95, 96, 97, 98, 99, 100, 101, 102, 103, 104, 105, 106, 107, 108, 109, 110, 111, 112, 113, 114, 115, 116, 117, 118, 119, 120, 121, 122, 123, 124, 125, 126, 127, 128, 129, 130, 131, 132, 133, 134, 135, 136, 137, 138, 139, 140, 141] (cutX cy x0 m0 u v) rfl rfl (fun _ _ _ => trivial) dL_law_606 rfl rfl (Nat.le_of_ble_eq_true rfl) ⟨Nat.le_of_ble_eq_true rfl, Nat.le_of_ble_eq_true rfl⟩ ⟨Nat.le_of_ble_eq_true rfl, Nat.le_of_ble_eq_true rfl⟩ (fun r1 u2 H locs hw1 hP9 hD9 hS9 => ?_)
  clear hP hD hS
  have hP := hP9
  have hD := hD9
  have hS := hS9
  clear hP9 hD9 hS9
  refine W.widen (k := 142) (n := 14416) (Nat.le_of_ble_eq_true rfl) (Nat.le_of_ble_eq_true rfl) ?_
  refine lv_pop hx hb dL_law_609 rfl ?_
  refine lv_aload_n hx hb dL_law_610 rfl (lv_at hl 1 rfl) ?_
  refine lv_aload_n hx hb dL_law_611 rfl (lv_at hl 3 rfl) ?_
  refine lv_iload_n hx hb dL_law_612 rfl (lv_at hl 0 rfl) ?_
  refine lv_iconst (v := 1) hx hb dL_law_613 (by decide) ?_
  refine lv_iadd hx hb dL_law_614 ?_
  refine lv_topi (fun y_3 hy_3 => ?_)
  obtain rfl : y_3 = nI (i + 1) := hy_3.trans (nI_add i 1)
  refine va_sld hx hb hX hbl hbA hS (vp_in_nI (by omega) (by omega)) dL_law_615 ?_
  refine lv_aload_n hx hb dL_law_616 rfl (lv_at hl 3 rfl) ?_
  refine lv_iload_n hx hb dL_law_617 rfl (lv_at hl 0 rfl) ?_
  refine lv_iconst (v := 2) hx hb dL_law_618 (by decide) ?_
  refine lv_iadd hx hb dL_law_619 ?_
  refine lv_topi (fun y_4 hy_4 => ?_)
  obtain rfl : y_4 = nI (i + 2) := hy_4.trans (nI_add i 2)
  refine va_sld hx hb hX hbl hbA hS (vp_in_nI (by omega) (by omega)) dL_law_620 ?_
  refine x_callVi (q := (RX12, TX12, 89)) (ci := 12) (q0 := 0) (wr := IX cy x0 u2) (rest := []) ⟨hx, hb, hml, hown, hg, hl.1⟩ k_L_81 (tm_echo l D cy m0 v hv (xs (nI (i + 1) : Int32).toNatClampNeg) (xs (nI (i + 2) : Int32).toNatClampNeg)) E0_blind hK hP hD hS hA [0, 1, 2, 3, 4, 5, 6, 7, 8, 9, 10, 11, 12, 13, 14, 15, 16, 17, 18, 19, 20, 21, 22, 23, 24, 25, 26, 27, 28, 29, 30, 31, 32, 33, 34, 35, 36, 37, 38, 39, 40, 41, 42, 43, 44, 45, 46, 47] [48, 49, 50, 51, 52, 53, 54, 55, 56, 57, 58, 59, 60, 61, 62, 63, 64, 65, 66, 67, 68, 69, 70, 71, 72, 73, 74, 75, 76, 77, 78, 79, 80, 81, 82, 83, 84, 85, 86, 87, 88, 89, 90, 91, 92, 93, 94, 95, 96, 97, 98, 99, 100, 101, 102, 103, 104, 105, 106, 107, 108, 109, 110, 111, 112, 113, 114, 115, 116, 117, 118, 119, 120, 121, 122, 123, 124, 125, 126, 127, 128, 129, 130, 131, 132, 133, 134, 135, 136, 137, 138, 139, 140, 141] (cutM cy x0 m0 u2 v) rfl rfl (fun _ _ _ => trivial) dL_law_621 rfl rfl (Nat.le_of_ble_eq_true rfl) ⟨Nat.le_of_ble_eq_true rfl, Nat.le_of_ble_eq_true rfl⟩ ⟨Nat.le_of_ble_eq_true rfl, Nat.le_of_ble_eq_true rfl⟩ (fun r2 v2 H locs hw2 hP9 hD9 hS9 => ?_)
  clear hP hD hS
  have hP := hP9
  have hD := hD9
  have hS := hS9
  clear hP9 hD9 hS9
  refine W.widen (k := 142) (n := 14416) (Nat.le_of_ble_eq_true rfl) (Nat.le_of_ble_eq_true rfl) ?_
  refine lv_pop hx hb dL_law_624 rfl ?_
  refine lv_goto (tgt := 1244) hx hb dL_law_625 (by decide) ?_
  exact hk u2 v2 H locs ls hw1.1 hw2.1 ⟨(sm_d hT.1 hw1.2.1 hw2.2.1), RH_eq hT.2.1 hw1.2.2.1 hw2.2.2.1, RS_eq hT.2.2.1 hw1.2.1.2.1 hw1.2.2.2.1 hw2.2.2.2.1, RMt_of hw1.2.2.2.2.2 hw2.2.2.2.2.2 hT.2.2.2⟩ hP hD hS hl
theorem gdL_law_628 : decode cL_law 628 = .ok (.aload_n 1, 1) ∧ decode cL_law 629 = .ok (.aload_n 0, 1) ∧ decode cL_law 630 = .ok (.iload_n 3, 1) ∧ decode cL_law 631 = .ok (.iconst 1, 1) ∧ decode cL_law 632 = .ok (.iadd, 1) ∧ decode cL_law 633 = .ok (.iaload, 1) ∧ decode cL_law 634 = .ok (.aload_n 0, 1) ∧ decode cL_law 635 = .ok (.iload_n 3, 1) ∧ decode cL_law 636 = .ok (.iconst 2, 1) ∧ decode cL_law 637 = .ok (.iadd, 1) ∧ decode cL_law 638 = .ok (.iaload, 1) ∧ decode cL_law 639 = .ok (.invokevirtual 82, 3) := by decide +kernel
theorem dL_law_628 : decode cL_law 628 = .ok (.aload_n 1, 1) := gdL_law_628.1
theorem dL_law_629 : decode cL_law 629 = .ok (.aload_n 0, 1) := gdL_law_628.2.1
theorem dL_law_630 : decode cL_law 630 = .ok (.iload_n 3, 1) := gdL_law_628.2.2.1
theorem dL_law_631 : decode cL_law 631 = .ok (.iconst 1, 1) := gdL_law_628.2.2.2.1
theorem dL_law_632 : decode cL_law 632 = .ok (.iadd, 1) := gdL_law_628.2.2.2.2.1
theorem dL_law_633 : decode cL_law 633 = .ok (.iaload, 1) := gdL_law_628.2.2.2.2.2.1
theorem dL_law_634 : decode cL_law 634 = .ok (.aload_n 0, 1) := gdL_law_628.2.2.2.2.2.2.1
theorem dL_law_635 : decode cL_law 635 = .ok (.iload_n 3, 1) := gdL_law_628.2.2.2.2.2.2.2.1
theorem dL_law_636 : decode cL_law 636 = .ok (.iconst 2, 1) := gdL_law_628.2.2.2.2.2.2.2.2.1
theorem dL_law_637 : decode cL_law 637 = .ok (.iadd, 1) := gdL_law_628.2.2.2.2.2.2.2.2.2.1
theorem dL_law_638 : decode cL_law 638 = .ok (.iaload, 1) := gdL_law_628.2.2.2.2.2.2.2.2.2.2.1
theorem dL_law_639 : decode cL_law 639 = .ok (.invokevirtual 82, 3) := gdL_law_628.2.2.2.2.2.2.2.2.2.2.2
theorem k_L_82 : xV RL RX11 82 yX11_answers cX11_answers 6 (some .int) 2 := ⟨⟨m_1129, m_1130, m_1131, m_130, m_1132⟩, rfl, by decide, by decide, by decide +kernel⟩
theorem gdL_law_642 : decode cL_law 642 = .ok (.pop, 1) ∧ decode cL_law 643 = .ok (.aload_n 2, 1) ∧ decode cL_law 644 = .ok (.aload_n 0, 1) ∧ decode cL_law 645 = .ok (.iload_n 3, 1) ∧ decode cL_law 646 = .ok (.iconst 1, 1) ∧ decode cL_law 647 = .ok (.iadd, 1) ∧ decode cL_law 648 = .ok (.iaload, 1) ∧ decode cL_law 649 = .ok (.aload_n 0, 1) ∧ decode cL_law 650 = .ok (.iload_n 3, 1) ∧ decode cL_law 651 = .ok (.iconst 2, 1) ∧ decode cL_law 652 = .ok (.iadd, 1) ∧ decode cL_law 653 = .ok (.iaload, 1) := by decide +kernel
theorem dL_law_642 : decode cL_law 642 = .ok (.pop, 1) := gdL_law_642.1
theorem dL_law_643 : decode cL_law 643 = .ok (.aload_n 2, 1) := gdL_law_642.2.1
theorem dL_law_644 : decode cL_law 644 = .ok (.aload_n 0, 1) := gdL_law_642.2.2.1
theorem dL_law_645 : decode cL_law 645 = .ok (.iload_n 3, 1) := gdL_law_642.2.2.2.1
theorem dL_law_646 : decode cL_law 646 = .ok (.iconst 1, 1) := gdL_law_642.2.2.2.2.1
theorem dL_law_647 : decode cL_law 647 = .ok (.iadd, 1) := gdL_law_642.2.2.2.2.2.1
theorem dL_law_648 : decode cL_law 648 = .ok (.iaload, 1) := gdL_law_642.2.2.2.2.2.2.1
theorem dL_law_649 : decode cL_law 649 = .ok (.aload_n 0, 1) := gdL_law_642.2.2.2.2.2.2.2.1
theorem dL_law_650 : decode cL_law 650 = .ok (.iload_n 3, 1) := gdL_law_642.2.2.2.2.2.2.2.2.1
theorem dL_law_651 : decode cL_law 651 = .ok (.iconst 2, 1) := gdL_law_642.2.2.2.2.2.2.2.2.2.1
theorem dL_law_652 : decode cL_law 652 = .ok (.iadd, 1) := gdL_law_642.2.2.2.2.2.2.2.2.2.2.1
theorem dL_law_653 : decode cL_law 653 = .ok (.iaload, 1) := gdL_law_642.2.2.2.2.2.2.2.2.2.2.2
theorem dL_law_654 : decode cL_law 654 = .ok (.invokevirtual 85, 3) := by decide +kernel
theorem k_L_85 : xV RL RX12 85 yX12_answers cX12_answers 5 (some .int) 2 := ⟨⟨m_2013, m_2014, m_2015, m_146, m_2016⟩, rfl, by decide, by decide, by decide +kernel⟩
theorem dL_law_657 : decode cL_law 657 = .ok (.pop, 1) := by decide +kernel
theorem dL_law_658 : decode cL_law 658 = .ok (.goto 586, 3) := by decide +kernel
set_option maxHeartbeats 4000000 in
set_option maxRecDepth 100000 in
theorem lc_answers {p : Program} {e : Env} {s : State} {m : MethodId} {below : List Frame} {meth : Method} {c : Code} (l : Launch) {D : va_G} {cy : Nat → ClassId} {A : Nat → Prop} {b L : Nat} {xs : Nat → Int32} (hL : L ≤ 3072) (C : lwC p s m meth c b L xs D cy A) {adK adV : Nat → Nat} (hE : EV adK adV A s) (x0 m0 : Nat) {i : Nat} (hi : i + 6 ≤ L) (hk : lwW p l e s m below meth c b D cy A x0 m0 i 1244) : lwW p l e s m below meth c b D cy A x0 m0 i 628 := by
  obtain ⟨hx, hb, hr, hml, hown, hg, hlocks, hX, hbl, hK, hA, hAr, hbA⟩ := C
  intro u v H locs ls hu hv hT hP hD hS hl
  refine lv_aload_n hx hb dL_law_628 rfl (lv_at hl 2 rfl) ?_
  refine lv_aload_n hx hb dL_law_629 rfl (lv_at hl 3 rfl) ?_
  refine lv_iload_n hx hb dL_law_630 rfl (lv_at hl 0 rfl) ?_
  refine lv_iconst (v := 1) hx hb dL_law_631 (by decide) ?_
  refine lv_iadd hx hb dL_law_632 ?_
  refine lv_topi (fun y_1 hy_1 => ?_)
  obtain rfl : y_1 = nI (i + 1) := hy_1.trans (nI_add i 1)
  refine va_sld hx hb hX hbl hbA hS (vp_in_nI (by omega) (by omega)) dL_law_633 ?_
  refine lv_aload_n hx hb dL_law_634 rfl (lv_at hl 3 rfl) ?_
  refine lv_iload_n hx hb dL_law_635 rfl (lv_at hl 0 rfl) ?_
  refine lv_iconst (v := 2) hx hb dL_law_636 (by decide) ?_
  refine lv_iadd hx hb dL_law_637 ?_
  refine lv_topi (fun y_2 hy_2 => ?_)
  obtain rfl : y_2 = nI (i + 2) := hy_2.trans (nI_add i 2)
  refine va_sld hx hb hX hbl hbA hS (vp_in_nI (by omega) (by omega)) dL_law_638 ?_
  refine x_callVi (q := (RX11, TX11, 14)) (ci := 11) (q0 := 0) (wr := IM cy m0 v) (rest := []) ⟨hx, hb, hml, hown, hg, hl.1⟩ k_L_82 (tx_answers l D cy x0 u hu (xs (nI (i + 1) : Int32).toNatClampNeg) (xs (nI (i + 2) : Int32).toNatClampNeg)) E0_blind hK hP hD hS hA [0, 1, 2, 3, 4, 5, 6, 7, 8, 9, 10, 11, 12, 13, 14, 15, 16, 17, 18, 19, 20, 21, 22, 23, 24, 25, 26, 27, 28, 29, 30, 31, 32, 33, 34, 35, 36, 37, 38, 39, 40, 41, 42, 43, 44, 45, 46, 47, 48, 49, 50, 51, 52, 53, 54, 55, 56, 57, 58, 59, 60, 61, 62, 63, 64, 65, 66, 67, 68, 69, 70, 71, 72, 73, 74, 75, 76, 77, 78, 79, 80, 81, 82, 83, 84, 85, 86, 87, 88, 89, 90, 91, 92, 93] [94, 95, 96, 97, 98, 99, 100, 101, 102, 103, 104, 105, 106, 107, 108, 109, 110, 111, 112, 113, 114, 115, 116, 117, 118, 119, 120, 121, 122, 123, 124, 125, 126, 127, 128, 129, 130, 131, 132, 133, 134, 135, 136, 137, 138, 139, 140, 141] (cutX cy x0 m0 u v) rfl rfl (fun _ _ _ => trivial) dL_law_639 rfl rfl (Nat.le_of_ble_eq_true rfl) ⟨Nat.le_of_ble_eq_true rfl, Nat.le_of_ble_eq_true rfl⟩ ⟨Nat.le_of_ble_eq_true rfl, Nat.le_of_ble_eq_true rfl⟩ (fun r1 u2 H locs hw1 hP9 hD9 hS9 => ?_)
  clear hP hD hS
  have hP := hP9
  have hD := hD9
  have hS := hS9
  clear hP9 hD9 hS9
  refine W.widen (k := 142) (n := 14416) (Nat.le_of_ble_eq_true rfl) (Nat.le_of_ble_eq_true rfl) ?_
  refine lv_pop hx hb dL_law_642 rfl ?_
  refine lv_aload_n hx hb dL_law_643 rfl (lv_at hl 1 rfl) ?_
  refine lv_aload_n hx hb dL_law_644 rfl (lv_at hl 3 rfl) ?_
  refine lv_iload_n hx hb dL_law_645 rfl (lv_at hl 0 rfl) ?_
  refine lv_iconst (v := 1) hx hb dL_law_646 (by decide) ?_
  refine lv_iadd hx hb dL_law_647 ?_
  refine lv_topi (fun y_3 hy_3 => ?_)
  obtain rfl : y_3 = nI (i + 1) := hy_3.trans (nI_add i 1)
  refine va_sld hx hb hX hbl hbA hS (vp_in_nI (by omega) (by omega)) dL_law_648 ?_
  refine lv_aload_n hx hb dL_law_649 rfl (lv_at hl 3 rfl) ?_
  refine lv_iload_n hx hb dL_law_650 rfl (lv_at hl 0 rfl) ?_
  refine lv_iconst (v := 2) hx hb dL_law_651 (by decide) ?_
  refine lv_iadd hx hb dL_law_652 ?_
  refine lv_topi (fun y_4 hy_4 => ?_)
  obtain rfl : y_4 = nI (i + 2) := hy_4.trans (nI_add i 2)
  refine va_sld hx hb hX hbl hbA hS (vp_in_nI (by omega) (by omega)) dL_law_653 ?_
  refine x_callVi (q := (RX12, TX12, 89)) (ci := 12) (q0 := 0) (wr := IX cy x0 u2) (rest := []) ⟨hx, hb, hml, hown, hg, hl.1⟩ k_L_85 (tm_answers l D cy m0 v hv (xs (nI (i + 1) : Int32).toNatClampNeg) (xs (nI (i + 2) : Int32).toNatClampNeg)) E0_blind hK hP hD hS hA [0, 1, 2, 3, 4, 5, 6, 7, 8, 9, 10, 11, 12, 13, 14, 15, 16, 17, 18, 19, 20, 21, 22, 23, 24, 25, 26, 27, 28, 29, 30, 31, 32, 33, 34, 35, 36, 37, 38, 39, 40, 41, 42, 43, 44, 45, 46, 47] [48, 49, 50, 51, 52, 53, 54, 55, 56, 57, 58, 59, 60, 61, 62, 63, 64, 65, 66, 67, 68, 69, 70, 71, 72, 73, 74, 75, 76, 77, 78, 79, 80, 81, 82, 83, 84, 85, 86, 87, 88, 89, 90, 91, 92, 93, 94, 95, 96, 97, 98, 99, 100, 101, 102, 103, 104, 105, 106, 107, 108, 109, 110, 111, 112, 113, 114, 115, 116, 117, 118, 119, 120, 121, 122, 123, 124, 125, 126, 127, 128, 129, 130, 131, 132, 133, 134, 135, 136, 137, 138, 139, 140, 141] (cutM cy x0 m0 u2 v) rfl rfl (fun _ _ _ => trivial) dL_law_654 rfl rfl (Nat.le_of_ble_eq_true rfl) ⟨Nat.le_of_ble_eq_true rfl, Nat.le_of_ble_eq_true rfl⟩ ⟨Nat.le_of_ble_eq_true rfl, Nat.le_of_ble_eq_true rfl⟩ (fun r2 v2 H locs hw2 hP9 hD9 hS9 => ?_)
  clear hP hD hS
  have hP := hP9
  have hD := hD9
  have hS := hS9
  clear hP9 hD9 hS9
  refine W.widen (k := 142) (n := 14416) (Nat.le_of_ble_eq_true rfl) (Nat.le_of_ble_eq_true rfl) ?_
  refine lv_pop hx hb dL_law_657 rfl ?_
  refine lv_goto (tgt := 1244) hx hb dL_law_658 (by decide) ?_
  exact hk u2 v2 H locs ls hw1.1 hw2.1 ⟨(sm_d hT.1 hw1.2.1 hw2.2.1), RH_eq hT.2.1 hw1.2.2.1 hw2.2.2.1, RS_eq hT.2.2.1 hw1.2.1.2.1 hw1.2.2.2.1 hw2.2.2.2.1, RMt_of hw1.2.2.2.2.2 hw2.2.2.2.2.2 hT.2.2.2⟩ hP hD hS hl
theorem gdL_law_661 : decode cL_law 661 = .ok (.aload_n 1, 1) ∧ decode cL_law 662 = .ok (.aload_n 0, 1) ∧ decode cL_law 663 = .ok (.iload_n 3, 1) ∧ decode cL_law 664 = .ok (.iconst 1, 1) ∧ decode cL_law 665 = .ok (.iadd, 1) ∧ decode cL_law 666 = .ok (.iaload, 1) ∧ decode cL_law 667 = .ok (.invokevirtual 86, 3) := by decide +kernel
theorem dL_law_661 : decode cL_law 661 = .ok (.aload_n 1, 1) := gdL_law_661.1
theorem dL_law_662 : decode cL_law 662 = .ok (.aload_n 0, 1) := gdL_law_661.2.1
theorem dL_law_663 : decode cL_law 663 = .ok (.iload_n 3, 1) := gdL_law_661.2.2.1
theorem dL_law_664 : decode cL_law 664 = .ok (.iconst 1, 1) := gdL_law_661.2.2.2.1
theorem dL_law_665 : decode cL_law 665 = .ok (.iadd, 1) := gdL_law_661.2.2.2.2.1
theorem dL_law_666 : decode cL_law 666 = .ok (.iaload, 1) := gdL_law_661.2.2.2.2.2.1
theorem dL_law_667 : decode cL_law 667 = .ok (.invokevirtual 86, 3) := gdL_law_661.2.2.2.2.2.2
theorem k_L_86 : xV RL RX11 86 yX11_binds cX11_binds 2 (some .int) 1 := ⟨⟨m_1134, m_1135, m_1136, m_130, m_1137⟩, rfl, by decide, by decide, by decide +kernel⟩
theorem gdL_law_670 : decode cL_law 670 = .ok (.pop, 1) ∧ decode cL_law 671 = .ok (.aload_n 2, 1) ∧ decode cL_law 672 = .ok (.aload_n 0, 1) ∧ decode cL_law 673 = .ok (.iload_n 3, 1) ∧ decode cL_law 674 = .ok (.iconst 1, 1) ∧ decode cL_law 675 = .ok (.iadd, 1) ∧ decode cL_law 676 = .ok (.iaload, 1) ∧ decode cL_law 677 = .ok (.invokevirtual 89, 3) := by decide +kernel
theorem dL_law_670 : decode cL_law 670 = .ok (.pop, 1) := gdL_law_670.1
theorem dL_law_671 : decode cL_law 671 = .ok (.aload_n 2, 1) := gdL_law_670.2.1
theorem dL_law_672 : decode cL_law 672 = .ok (.aload_n 0, 1) := gdL_law_670.2.2.1
theorem dL_law_673 : decode cL_law 673 = .ok (.iload_n 3, 1) := gdL_law_670.2.2.2.1
theorem dL_law_674 : decode cL_law 674 = .ok (.iconst 1, 1) := gdL_law_670.2.2.2.2.1
theorem dL_law_675 : decode cL_law 675 = .ok (.iadd, 1) := gdL_law_670.2.2.2.2.2.1
theorem dL_law_676 : decode cL_law 676 = .ok (.iaload, 1) := gdL_law_670.2.2.2.2.2.2.1
theorem dL_law_677 : decode cL_law 677 = .ok (.invokevirtual 89, 3) := gdL_law_670.2.2.2.2.2.2.2
theorem k_L_89 : xV RL RX12 89 yX12_binds cX12_binds 2 (some .int) 1 := ⟨⟨m_2017, m_2018, m_2019, m_146, m_2020⟩, rfl, by decide, by decide, by decide +kernel⟩
theorem dL_law_680 : decode cL_law 680 = .ok (.pop, 1) := by decide +kernel
theorem dL_law_681 : decode cL_law 681 = .ok (.goto 563, 3) := by decide +kernel
set_option maxHeartbeats 4000000 in
set_option maxRecDepth 100000 in
theorem lc_binds {p : Program} {e : Env} {s : State} {m : MethodId} {below : List Frame} {meth : Method} {c : Code} (l : Launch) {D : va_G} {cy : Nat → ClassId} {A : Nat → Prop} {b L : Nat} {xs : Nat → Int32} (hL : L ≤ 3072) (C : lwC p s m meth c b L xs D cy A) {adK adV : Nat → Nat} (hE : EV adK adV A s) (x0 m0 : Nat) {i : Nat} (hi : i + 6 ≤ L) (hk : lwW p l e s m below meth c b D cy A x0 m0 i 1244) : lwW p l e s m below meth c b D cy A x0 m0 i 661 := by
  obtain ⟨hx, hb, hr, hml, hown, hg, hlocks, hX, hbl, hK, hA, hAr, hbA⟩ := C
  intro u v H locs ls hu hv hT hP hD hS hl
  refine lv_aload_n hx hb dL_law_661 rfl (lv_at hl 2 rfl) ?_
  refine lv_aload_n hx hb dL_law_662 rfl (lv_at hl 3 rfl) ?_
  refine lv_iload_n hx hb dL_law_663 rfl (lv_at hl 0 rfl) ?_
  refine lv_iconst (v := 1) hx hb dL_law_664 (by decide) ?_
  refine lv_iadd hx hb dL_law_665 ?_
  refine lv_topi (fun y_1 hy_1 => ?_)
  obtain rfl : y_1 = nI (i + 1) := hy_1.trans (nI_add i 1)
  refine va_sld hx hb hX hbl hbA hS (vp_in_nI (by omega) (by omega)) dL_law_666 ?_
  refine x_callVi (q := (RX11, TX11, 14)) (ci := 11) (q0 := 0) (wr := IM cy m0 v) (rest := []) ⟨hx, hb, hml, hown, hg, hl.1⟩ k_L_86 (tx_binds l D cy x0 u hu (xs (nI (i + 1) : Int32).toNatClampNeg)) E0_blind hK hP hD hS hA [0, 1, 2, 3, 4, 5, 6, 7, 8, 9, 10, 11, 12, 13, 14, 15, 16, 17, 18, 19, 20, 21, 22, 23, 24, 25, 26, 27, 28, 29, 30, 31, 32, 33, 34, 35, 36, 37, 38, 39, 40, 41, 42, 43, 44, 45, 46, 47, 48, 49, 50, 51, 52, 53, 54, 55, 56, 57, 58, 59, 60, 61, 62, 63, 64, 65, 66, 67, 68, 69, 70, 71, 72, 73, 74, 75, 76, 77, 78, 79, 80, 81, 82, 83, 84, 85, 86, 87, 88, 89, 90, 91, 92, 93] [94, 95, 96, 97, 98, 99, 100, 101, 102, 103, 104, 105, 106, 107, 108, 109, 110, 111, 112, 113, 114, 115, 116, 117, 118, 119, 120, 121, 122, 123, 124, 125, 126, 127, 128, 129, 130, 131, 132, 133, 134, 135, 136, 137, 138, 139, 140, 141] (cutX cy x0 m0 u v) rfl rfl (fun _ _ _ => trivial) dL_law_667 rfl rfl (Nat.le_of_ble_eq_true rfl) ⟨Nat.le_of_ble_eq_true rfl, Nat.le_of_ble_eq_true rfl⟩ ⟨Nat.le_of_ble_eq_true rfl, Nat.le_of_ble_eq_true rfl⟩ (fun r1 u2 H locs hw1 hP9 hD9 hS9 => ?_)
  clear hP hD hS
  have hP := hP9
  have hD := hD9
  have hS := hS9
  clear hP9 hD9 hS9
  refine W.widen (k := 142) (n := 14416) (Nat.le_of_ble_eq_true rfl) (Nat.le_of_ble_eq_true rfl) ?_
  refine lv_pop hx hb dL_law_670 rfl ?_
  refine lv_aload_n hx hb dL_law_671 rfl (lv_at hl 1 rfl) ?_
  refine lv_aload_n hx hb dL_law_672 rfl (lv_at hl 3 rfl) ?_
  refine lv_iload_n hx hb dL_law_673 rfl (lv_at hl 0 rfl) ?_
  refine lv_iconst (v := 1) hx hb dL_law_674 (by decide) ?_
  refine lv_iadd hx hb dL_law_675 ?_
  refine lv_topi (fun y_2 hy_2 => ?_)
  obtain rfl : y_2 = nI (i + 1) := hy_2.trans (nI_add i 1)
  refine va_sld hx hb hX hbl hbA hS (vp_in_nI (by omega) (by omega)) dL_law_676 ?_
  refine x_callVi (q := (RX12, TX12, 89)) (ci := 12) (q0 := 0) (wr := IX cy x0 u2) (rest := []) ⟨hx, hb, hml, hown, hg, hl.1⟩ k_L_89 (tm_binds l D cy m0 v hv (xs (nI (i + 1) : Int32).toNatClampNeg)) E0_blind hK hP hD hS hA [0, 1, 2, 3, 4, 5, 6, 7, 8, 9, 10, 11, 12, 13, 14, 15, 16, 17, 18, 19, 20, 21, 22, 23, 24, 25, 26, 27, 28, 29, 30, 31, 32, 33, 34, 35, 36, 37, 38, 39, 40, 41, 42, 43, 44, 45, 46, 47] [48, 49, 50, 51, 52, 53, 54, 55, 56, 57, 58, 59, 60, 61, 62, 63, 64, 65, 66, 67, 68, 69, 70, 71, 72, 73, 74, 75, 76, 77, 78, 79, 80, 81, 82, 83, 84, 85, 86, 87, 88, 89, 90, 91, 92, 93, 94, 95, 96, 97, 98, 99, 100, 101, 102, 103, 104, 105, 106, 107, 108, 109, 110, 111, 112, 113, 114, 115, 116, 117, 118, 119, 120, 121, 122, 123, 124, 125, 126, 127, 128, 129, 130, 131, 132, 133, 134, 135, 136, 137, 138, 139, 140, 141] (cutM cy x0 m0 u2 v) rfl rfl (fun _ _ _ => trivial) dL_law_677 rfl rfl (Nat.le_of_ble_eq_true rfl) ⟨Nat.le_of_ble_eq_true rfl, Nat.le_of_ble_eq_true rfl⟩ ⟨Nat.le_of_ble_eq_true rfl, Nat.le_of_ble_eq_true rfl⟩ (fun r2 v2 H locs hw2 hP9 hD9 hS9 => ?_)
  clear hP hD hS
  have hP := hP9
  have hD := hD9
  have hS := hS9
  clear hP9 hD9 hS9
  refine W.widen (k := 142) (n := 14416) (Nat.le_of_ble_eq_true rfl) (Nat.le_of_ble_eq_true rfl) ?_
  refine lv_pop hx hb dL_law_680 rfl ?_
  refine lv_goto (tgt := 1244) hx hb dL_law_681 (by decide) ?_
  exact hk u2 v2 H locs ls hw1.1 hw2.1 ⟨(sm_d hT.1 hw1.2.1 hw2.2.1), RH_eq hT.2.1 hw1.2.2.1 hw2.2.2.1, RS_eq hT.2.2.1 hw1.2.1.2.1 hw1.2.2.2.1 hw2.2.2.2.1, RMt_of hw1.2.2.2.2.2 hw2.2.2.2.2.2 hT.2.2.2⟩ hP hD hS hl
theorem gdL_law_684 : decode cL_law 684 = .ok (.aload_n 1, 1) ∧ decode cL_law 685 = .ok (.aload_n 0, 1) ∧ decode cL_law 686 = .ok (.iload_n 3, 1) ∧ decode cL_law 687 = .ok (.iconst 1, 1) ∧ decode cL_law 688 = .ok (.iadd, 1) ∧ decode cL_law 689 = .ok (.iaload, 1) ∧ decode cL_law 690 = .ok (.invokevirtual 90, 3) := by decide +kernel
theorem dL_law_684 : decode cL_law 684 = .ok (.aload_n 1, 1) := gdL_law_684.1
theorem dL_law_685 : decode cL_law 685 = .ok (.aload_n 0, 1) := gdL_law_684.2.1
theorem dL_law_686 : decode cL_law 686 = .ok (.iload_n 3, 1) := gdL_law_684.2.2.1
theorem dL_law_687 : decode cL_law 687 = .ok (.iconst 1, 1) := gdL_law_684.2.2.2.1
theorem dL_law_688 : decode cL_law 688 = .ok (.iadd, 1) := gdL_law_684.2.2.2.2.1
theorem dL_law_689 : decode cL_law 689 = .ok (.iaload, 1) := gdL_law_684.2.2.2.2.2.1
theorem dL_law_690 : decode cL_law 690 = .ok (.invokevirtual 90, 3) := gdL_law_684.2.2.2.2.2.2
theorem k_L_90 : xV RL RX11 90 yX11_pardon cX11_pardon 3 (some .int) 1 := ⟨⟨m_1138, m_1139, m_1140, m_130, m_1141⟩, rfl, by decide, by decide, by decide +kernel⟩
theorem gdL_law_693 : decode cL_law 693 = .ok (.pop, 1) ∧ decode cL_law 694 = .ok (.aload_n 2, 1) ∧ decode cL_law 695 = .ok (.aload_n 0, 1) ∧ decode cL_law 696 = .ok (.iload_n 3, 1) ∧ decode cL_law 697 = .ok (.iconst 1, 1) ∧ decode cL_law 698 = .ok (.iadd, 1) ∧ decode cL_law 699 = .ok (.iaload, 1) ∧ decode cL_law 700 = .ok (.invokevirtual 93, 3) := by decide +kernel
theorem dL_law_693 : decode cL_law 693 = .ok (.pop, 1) := gdL_law_693.1
theorem dL_law_694 : decode cL_law 694 = .ok (.aload_n 2, 1) := gdL_law_693.2.1
theorem dL_law_695 : decode cL_law 695 = .ok (.aload_n 0, 1) := gdL_law_693.2.2.1
theorem dL_law_696 : decode cL_law 696 = .ok (.iload_n 3, 1) := gdL_law_693.2.2.2.1
theorem dL_law_697 : decode cL_law 697 = .ok (.iconst 1, 1) := gdL_law_693.2.2.2.2.1
theorem dL_law_698 : decode cL_law 698 = .ok (.iadd, 1) := gdL_law_693.2.2.2.2.2.1
theorem dL_law_699 : decode cL_law 699 = .ok (.iaload, 1) := gdL_law_693.2.2.2.2.2.2.1
theorem dL_law_700 : decode cL_law 700 = .ok (.invokevirtual 93, 3) := gdL_law_693.2.2.2.2.2.2.2
theorem k_L_93 : xV RL RX12 93 yX12_pardon cX12_pardon 5 (some .int) 1 := ⟨⟨m_2021, m_2022, m_2023, m_146, m_2024⟩, rfl, by decide, by decide, by decide +kernel⟩
theorem dL_law_703 : decode cL_law 703 = .ok (.pop, 1) := by decide +kernel
theorem dL_law_704 : decode cL_law 704 = .ok (.goto 540, 3) := by decide +kernel
set_option maxHeartbeats 4000000 in
set_option maxRecDepth 100000 in
theorem lc_pardon {p : Program} {e : Env} {s : State} {m : MethodId} {below : List Frame} {meth : Method} {c : Code} (l : Launch) {D : va_G} {cy : Nat → ClassId} {A : Nat → Prop} {b L : Nat} {xs : Nat → Int32} (hL : L ≤ 3072) (C : lwC p s m meth c b L xs D cy A) {adK adV : Nat → Nat} (hE : EV adK adV A s) (x0 m0 : Nat) {i : Nat} (hi : i + 6 ≤ L) (hk : lwW p l e s m below meth c b D cy A x0 m0 i 1244) : lwW p l e s m below meth c b D cy A x0 m0 i 684 := by
  obtain ⟨hx, hb, hr, hml, hown, hg, hlocks, hX, hbl, hK, hA, hAr, hbA⟩ := C
  intro u v H locs ls hu hv hT hP hD hS hl
  refine lv_aload_n hx hb dL_law_684 rfl (lv_at hl 2 rfl) ?_
  refine lv_aload_n hx hb dL_law_685 rfl (lv_at hl 3 rfl) ?_
  refine lv_iload_n hx hb dL_law_686 rfl (lv_at hl 0 rfl) ?_
  refine lv_iconst (v := 1) hx hb dL_law_687 (by decide) ?_
  refine lv_iadd hx hb dL_law_688 ?_
  refine lv_topi (fun y_1 hy_1 => ?_)
  obtain rfl : y_1 = nI (i + 1) := hy_1.trans (nI_add i 1)
  refine va_sld hx hb hX hbl hbA hS (vp_in_nI (by omega) (by omega)) dL_law_689 ?_
  refine x_callVi (q := (RX11, TX11, 14)) (ci := 11) (q0 := 0) (wr := IM cy m0 v) (rest := []) ⟨hx, hb, hml, hown, hg, hl.1⟩ k_L_90 (tx_pardon l D cy x0 u hu (xs (nI (i + 1) : Int32).toNatClampNeg)) E0_blind hK hP hD hS hA [0, 1, 2, 3, 4, 5, 6, 7, 8, 9, 10, 11, 12, 13, 14, 15, 16, 17, 18, 19, 20, 21, 22, 23, 24, 25, 26, 27, 28, 29, 30, 31, 32, 33, 34, 35, 36, 37, 38, 39, 40, 41, 42, 43, 44, 45, 46, 47, 48, 49, 50, 51, 52, 53, 54, 55, 56, 57, 58, 59, 60, 61, 62, 63, 64, 65, 66, 67, 68, 69, 70, 71, 72, 73, 74, 75, 76, 77, 78, 79, 80, 81, 82, 83, 84, 85, 86, 87, 88, 89, 90, 91, 92, 93] [94, 95, 96, 97, 98, 99, 100, 101, 102, 103, 104, 105, 106, 107, 108, 109, 110, 111, 112, 113, 114, 115, 116, 117, 118, 119, 120, 121, 122, 123, 124, 125, 126, 127, 128, 129, 130, 131, 132, 133, 134, 135, 136, 137, 138, 139, 140, 141] (cutX cy x0 m0 u v) rfl rfl (fun _ _ _ => trivial) dL_law_690 rfl rfl (Nat.le_of_ble_eq_true rfl) ⟨Nat.le_of_ble_eq_true rfl, Nat.le_of_ble_eq_true rfl⟩ ⟨Nat.le_of_ble_eq_true rfl, Nat.le_of_ble_eq_true rfl⟩ (fun r1 u2 H locs hw1 hP9 hD9 hS9 => ?_)
  clear hP hD hS
  have hP := hP9
  have hD := hD9
  have hS := hS9
  clear hP9 hD9 hS9
  refine W.widen (k := 142) (n := 14416) (Nat.le_of_ble_eq_true rfl) (Nat.le_of_ble_eq_true rfl) ?_
  refine lv_pop hx hb dL_law_693 rfl ?_
  refine lv_aload_n hx hb dL_law_694 rfl (lv_at hl 1 rfl) ?_
  refine lv_aload_n hx hb dL_law_695 rfl (lv_at hl 3 rfl) ?_
  refine lv_iload_n hx hb dL_law_696 rfl (lv_at hl 0 rfl) ?_
  refine lv_iconst (v := 1) hx hb dL_law_697 (by decide) ?_
  refine lv_iadd hx hb dL_law_698 ?_
  refine lv_topi (fun y_2 hy_2 => ?_)
  obtain rfl : y_2 = nI (i + 1) := hy_2.trans (nI_add i 1)
  refine va_sld hx hb hX hbl hbA hS (vp_in_nI (by omega) (by omega)) dL_law_699 ?_
  refine x_callVi (q := (RX12, TX12, 89)) (ci := 12) (q0 := 0) (wr := IX cy x0 u2) (rest := []) ⟨hx, hb, hml, hown, hg, hl.1⟩ k_L_93 (tm_pardon l D cy m0 v hv (xs (nI (i + 1) : Int32).toNatClampNeg)) E0_blind hK hP hD hS hA [0, 1, 2, 3, 4, 5, 6, 7, 8, 9, 10, 11, 12, 13, 14, 15, 16, 17, 18, 19, 20, 21, 22, 23, 24, 25, 26, 27, 28, 29, 30, 31, 32, 33, 34, 35, 36, 37, 38, 39, 40, 41, 42, 43, 44, 45, 46, 47] [48, 49, 50, 51, 52, 53, 54, 55, 56, 57, 58, 59, 60, 61, 62, 63, 64, 65, 66, 67, 68, 69, 70, 71, 72, 73, 74, 75, 76, 77, 78, 79, 80, 81, 82, 83, 84, 85, 86, 87, 88, 89, 90, 91, 92, 93, 94, 95, 96, 97, 98, 99, 100, 101, 102, 103, 104, 105, 106, 107, 108, 109, 110, 111, 112, 113, 114, 115, 116, 117, 118, 119, 120, 121, 122, 123, 124, 125, 126, 127, 128, 129, 130, 131, 132, 133, 134, 135, 136, 137, 138, 139, 140, 141] (cutM cy x0 m0 u2 v) rfl rfl (fun _ _ _ => trivial) dL_law_700 rfl rfl (Nat.le_of_ble_eq_true rfl) ⟨Nat.le_of_ble_eq_true rfl, Nat.le_of_ble_eq_true rfl⟩ ⟨Nat.le_of_ble_eq_true rfl, Nat.le_of_ble_eq_true rfl⟩ (fun r2 v2 H locs hw2 hP9 hD9 hS9 => ?_)
  clear hP hD hS
  have hP := hP9
  have hD := hD9
  have hS := hS9
  clear hP9 hD9 hS9
  refine W.widen (k := 142) (n := 14416) (Nat.le_of_ble_eq_true rfl) (Nat.le_of_ble_eq_true rfl) ?_
  refine lv_pop hx hb dL_law_703 rfl ?_
  refine lv_goto (tgt := 1244) hx hb dL_law_704 (by decide) ?_
  exact hk u2 v2 H locs ls hw1.1 hw2.1 ⟨(sm_d hT.1 hw1.2.1 hw2.2.1), RH_eq hT.2.1 hw1.2.2.1 hw2.2.2.1, RS_eq hT.2.2.1 hw1.2.1.2.1 hw1.2.2.2.1 hw2.2.2.2.1, RMt_of hw1.2.2.2.2.2 hw2.2.2.2.2.2 hT.2.2.2⟩ hP hD hS hl
theorem gdL_law_707 : decode cL_law 707 = .ok (.aload_n 1, 1) ∧ decode cL_law 708 = .ok (.aload_n 0, 1) ∧ decode cL_law 709 = .ok (.iload_n 3, 1) ∧ decode cL_law 710 = .ok (.iconst 1, 1) ∧ decode cL_law 711 = .ok (.iadd, 1) ∧ decode cL_law 712 = .ok (.iaload, 1) ∧ decode cL_law 713 = .ok (.aload_n 0, 1) ∧ decode cL_law 714 = .ok (.iload_n 3, 1) ∧ decode cL_law 715 = .ok (.iconst 2, 1) ∧ decode cL_law 716 = .ok (.iadd, 1) ∧ decode cL_law 717 = .ok (.iaload, 1) ∧ decode cL_law 718 = .ok (.invokevirtual 94, 3) := by decide +kernel
theorem dL_law_707 : decode cL_law 707 = .ok (.aload_n 1, 1) := gdL_law_707.1
theorem dL_law_708 : decode cL_law 708 = .ok (.aload_n 0, 1) := gdL_law_707.2.1
theorem dL_law_709 : decode cL_law 709 = .ok (.iload_n 3, 1) := gdL_law_707.2.2.1
theorem dL_law_710 : decode cL_law 710 = .ok (.iconst 1, 1) := gdL_law_707.2.2.2.1
theorem dL_law_711 : decode cL_law 711 = .ok (.iadd, 1) := gdL_law_707.2.2.2.2.1
theorem dL_law_712 : decode cL_law 712 = .ok (.iaload, 1) := gdL_law_707.2.2.2.2.2.1
theorem dL_law_713 : decode cL_law 713 = .ok (.aload_n 0, 1) := gdL_law_707.2.2.2.2.2.2.1
theorem dL_law_714 : decode cL_law 714 = .ok (.iload_n 3, 1) := gdL_law_707.2.2.2.2.2.2.2.1
theorem dL_law_715 : decode cL_law 715 = .ok (.iconst 2, 1) := gdL_law_707.2.2.2.2.2.2.2.2.1
theorem dL_law_716 : decode cL_law 716 = .ok (.iadd, 1) := gdL_law_707.2.2.2.2.2.2.2.2.2.1
theorem dL_law_717 : decode cL_law 717 = .ok (.iaload, 1) := gdL_law_707.2.2.2.2.2.2.2.2.2.2.1
theorem dL_law_718 : decode cL_law 718 = .ok (.invokevirtual 94, 3) := gdL_law_707.2.2.2.2.2.2.2.2.2.2.2
theorem k_L_94 : xV RL RX11 94 yX11_pardons cX11_pardons 3 (some .int) 2 := ⟨⟨m_1183, m_1184, m_1185, m_130, m_1186⟩, rfl, by decide, by decide, by decide +kernel⟩
theorem gdL_law_721 : decode cL_law 721 = .ok (.pop, 1) ∧ decode cL_law 722 = .ok (.aload_n 2, 1) ∧ decode cL_law 723 = .ok (.aload_n 0, 1) ∧ decode cL_law 724 = .ok (.iload_n 3, 1) ∧ decode cL_law 725 = .ok (.iconst 1, 1) ∧ decode cL_law 726 = .ok (.iadd, 1) ∧ decode cL_law 727 = .ok (.iaload, 1) ∧ decode cL_law 728 = .ok (.aload_n 0, 1) ∧ decode cL_law 729 = .ok (.iload_n 3, 1) ∧ decode cL_law 730 = .ok (.iconst 2, 1) ∧ decode cL_law 731 = .ok (.iadd, 1) ∧ decode cL_law 732 = .ok (.iaload, 1) := by decide +kernel
theorem dL_law_721 : decode cL_law 721 = .ok (.pop, 1) := gdL_law_721.1
theorem dL_law_722 : decode cL_law 722 = .ok (.aload_n 2, 1) := gdL_law_721.2.1
theorem dL_law_723 : decode cL_law 723 = .ok (.aload_n 0, 1) := gdL_law_721.2.2.1
theorem dL_law_724 : decode cL_law 724 = .ok (.iload_n 3, 1) := gdL_law_721.2.2.2.1
theorem dL_law_725 : decode cL_law 725 = .ok (.iconst 1, 1) := gdL_law_721.2.2.2.2.1
theorem dL_law_726 : decode cL_law 726 = .ok (.iadd, 1) := gdL_law_721.2.2.2.2.2.1
theorem dL_law_727 : decode cL_law 727 = .ok (.iaload, 1) := gdL_law_721.2.2.2.2.2.2.1
theorem dL_law_728 : decode cL_law 728 = .ok (.aload_n 0, 1) := gdL_law_721.2.2.2.2.2.2.2.1
theorem dL_law_729 : decode cL_law 729 = .ok (.iload_n 3, 1) := gdL_law_721.2.2.2.2.2.2.2.2.1
theorem dL_law_730 : decode cL_law 730 = .ok (.iconst 2, 1) := gdL_law_721.2.2.2.2.2.2.2.2.2.1
theorem dL_law_731 : decode cL_law 731 = .ok (.iadd, 1) := gdL_law_721.2.2.2.2.2.2.2.2.2.2.1
theorem dL_law_732 : decode cL_law 732 = .ok (.iaload, 1) := gdL_law_721.2.2.2.2.2.2.2.2.2.2.2
theorem dL_law_733 : decode cL_law 733 = .ok (.invokevirtual 97, 3) := by decide +kernel
theorem k_L_97 : xV RL RX12 97 yX12_pardons cX12_pardons 6 (some .int) 2 := ⟨⟨m_2041, m_2042, m_2043, m_146, m_2044⟩, rfl, by decide, by decide, by decide +kernel⟩
theorem dL_law_736 : decode cL_law 736 = .ok (.pop, 1) := by decide +kernel
theorem dL_law_737 : decode cL_law 737 = .ok (.goto 507, 3) := by decide +kernel
set_option maxHeartbeats 4000000 in
set_option maxRecDepth 100000 in
theorem lc_pardons {p : Program} {e : Env} {s : State} {m : MethodId} {below : List Frame} {meth : Method} {c : Code} (l : Launch) {D : va_G} {cy : Nat → ClassId} {A : Nat → Prop} {b L : Nat} {xs : Nat → Int32} (hL : L ≤ 3072) (C : lwC p s m meth c b L xs D cy A) {adK adV : Nat → Nat} (hE : EV adK adV A s) (x0 m0 : Nat) {i : Nat} (hi : i + 6 ≤ L) (hk : lwW p l e s m below meth c b D cy A x0 m0 i 1244) : lwW p l e s m below meth c b D cy A x0 m0 i 707 := by
  obtain ⟨hx, hb, hr, hml, hown, hg, hlocks, hX, hbl, hK, hA, hAr, hbA⟩ := C
  intro u v H locs ls hu hv hT hP hD hS hl
  refine lv_aload_n hx hb dL_law_707 rfl (lv_at hl 2 rfl) ?_
  refine lv_aload_n hx hb dL_law_708 rfl (lv_at hl 3 rfl) ?_
  refine lv_iload_n hx hb dL_law_709 rfl (lv_at hl 0 rfl) ?_
  refine lv_iconst (v := 1) hx hb dL_law_710 (by decide) ?_
  refine lv_iadd hx hb dL_law_711 ?_
  refine lv_topi (fun y_1 hy_1 => ?_)
  obtain rfl : y_1 = nI (i + 1) := hy_1.trans (nI_add i 1)
  refine va_sld hx hb hX hbl hbA hS (vp_in_nI (by omega) (by omega)) dL_law_712 ?_
  refine lv_aload_n hx hb dL_law_713 rfl (lv_at hl 3 rfl) ?_
  refine lv_iload_n hx hb dL_law_714 rfl (lv_at hl 0 rfl) ?_
  refine lv_iconst (v := 2) hx hb dL_law_715 (by decide) ?_
  refine lv_iadd hx hb dL_law_716 ?_
  refine lv_topi (fun y_2 hy_2 => ?_)
  obtain rfl : y_2 = nI (i + 2) := hy_2.trans (nI_add i 2)
  refine va_sld hx hb hX hbl hbA hS (vp_in_nI (by omega) (by omega)) dL_law_717 ?_
  refine x_callVi (q := (RX11, TX11, 14)) (ci := 11) (q0 := 0) (wr := IM cy m0 v) (rest := []) ⟨hx, hb, hml, hown, hg, hl.1⟩ k_L_94 (tx_pardons l D cy x0 u hu (xs (nI (i + 1) : Int32).toNatClampNeg) (xs (nI (i + 2) : Int32).toNatClampNeg)) E0_blind hK hP hD hS hA [0, 1, 2, 3, 4, 5, 6, 7, 8, 9, 10, 11, 12, 13, 14, 15, 16, 17, 18, 19, 20, 21, 22, 23, 24, 25, 26, 27, 28, 29, 30, 31, 32, 33, 34, 35, 36, 37, 38, 39, 40, 41, 42, 43, 44, 45, 46, 47, 48, 49, 50, 51, 52, 53, 54, 55, 56, 57, 58, 59, 60, 61, 62, 63, 64, 65, 66, 67, 68, 69, 70, 71, 72, 73, 74, 75, 76, 77, 78, 79, 80, 81, 82, 83, 84, 85, 86, 87, 88, 89, 90, 91, 92, 93] [94, 95, 96, 97, 98, 99, 100, 101, 102, 103, 104, 105, 106, 107, 108, 109, 110, 111, 112, 113, 114, 115, 116, 117, 118, 119, 120, 121, 122, 123, 124, 125, 126, 127, 128, 129, 130, 131, 132, 133, 134, 135, 136, 137, 138, 139, 140, 141] (cutX cy x0 m0 u v) rfl rfl (fun _ _ _ => trivial) dL_law_718 rfl rfl (Nat.le_of_ble_eq_true rfl) ⟨Nat.le_of_ble_eq_true rfl, Nat.le_of_ble_eq_true rfl⟩ ⟨Nat.le_of_ble_eq_true rfl, Nat.le_of_ble_eq_true rfl⟩ (fun r1 u2 H locs hw1 hP9 hD9 hS9 => ?_)
  clear hP hD hS
  have hP := hP9
  have hD := hD9
  have hS := hS9
  clear hP9 hD9 hS9
  refine W.widen (k := 142) (n := 14416) (Nat.le_of_ble_eq_true rfl) (Nat.le_of_ble_eq_true rfl) ?_
  refine lv_pop hx hb dL_law_721 rfl ?_
  refine lv_aload_n hx hb dL_law_722 rfl (lv_at hl 1 rfl) ?_
  refine lv_aload_n hx hb dL_law_723 rfl (lv_at hl 3 rfl) ?_
  refine lv_iload_n hx hb dL_law_724 rfl (lv_at hl 0 rfl) ?_
  refine lv_iconst (v := 1) hx hb dL_law_725 (by decide) ?_
  refine lv_iadd hx hb dL_law_726 ?_
  refine lv_topi (fun y_3 hy_3 => ?_)
  obtain rfl : y_3 = nI (i + 1) := hy_3.trans (nI_add i 1)
  refine va_sld hx hb hX hbl hbA hS (vp_in_nI (by omega) (by omega)) dL_law_727 ?_
  refine lv_aload_n hx hb dL_law_728 rfl (lv_at hl 3 rfl) ?_
  refine lv_iload_n hx hb dL_law_729 rfl (lv_at hl 0 rfl) ?_
  refine lv_iconst (v := 2) hx hb dL_law_730 (by decide) ?_
  refine lv_iadd hx hb dL_law_731 ?_
  refine lv_topi (fun y_4 hy_4 => ?_)
  obtain rfl : y_4 = nI (i + 2) := hy_4.trans (nI_add i 2)
  refine va_sld hx hb hX hbl hbA hS (vp_in_nI (by omega) (by omega)) dL_law_732 ?_
  refine x_callVi (q := (RX12, TX12, 89)) (ci := 12) (q0 := 0) (wr := IX cy x0 u2) (rest := []) ⟨hx, hb, hml, hown, hg, hl.1⟩ k_L_97 (tm_pardons l D cy m0 v hv (xs (nI (i + 1) : Int32).toNatClampNeg) (xs (nI (i + 2) : Int32).toNatClampNeg)) E0_blind hK hP hD hS hA [0, 1, 2, 3, 4, 5, 6, 7, 8, 9, 10, 11, 12, 13, 14, 15, 16, 17, 18, 19, 20, 21, 22, 23, 24, 25, 26, 27, 28, 29, 30, 31, 32, 33, 34, 35, 36, 37, 38, 39, 40, 41, 42, 43, 44, 45, 46, 47] [48, 49, 50, 51, 52, 53, 54, 55, 56, 57, 58, 59, 60, 61, 62, 63, 64, 65, 66, 67, 68, 69, 70, 71, 72, 73, 74, 75, 76, 77, 78, 79, 80, 81, 82, 83, 84, 85, 86, 87, 88, 89, 90, 91, 92, 93, 94, 95, 96, 97, 98, 99, 100, 101, 102, 103, 104, 105, 106, 107, 108, 109, 110, 111, 112, 113, 114, 115, 116, 117, 118, 119, 120, 121, 122, 123, 124, 125, 126, 127, 128, 129, 130, 131, 132, 133, 134, 135, 136, 137, 138, 139, 140, 141] (cutM cy x0 m0 u2 v) rfl rfl (fun _ _ _ => trivial) dL_law_733 rfl rfl (Nat.le_of_ble_eq_true rfl) ⟨Nat.le_of_ble_eq_true rfl, Nat.le_of_ble_eq_true rfl⟩ ⟨Nat.le_of_ble_eq_true rfl, Nat.le_of_ble_eq_true rfl⟩ (fun r2 v2 H locs hw2 hP9 hD9 hS9 => ?_)
  clear hP hD hS
  have hP := hP9
  have hD := hD9
  have hS := hS9
  clear hP9 hD9 hS9
  refine W.widen (k := 142) (n := 14416) (Nat.le_of_ble_eq_true rfl) (Nat.le_of_ble_eq_true rfl) ?_
  refine lv_pop hx hb dL_law_736 rfl ?_
  refine lv_goto (tgt := 1244) hx hb dL_law_737 (by decide) ?_
  exact hk u2 v2 H locs ls hw1.1 hw2.1 ⟨(sm_d hT.1 hw1.2.1 hw2.2.1), RH_eq hT.2.1 hw1.2.2.1 hw2.2.2.1, RS_eq hT.2.2.1 hw1.2.1.2.1 hw1.2.2.2.1 hw2.2.2.2.1, RMt_of hw1.2.2.2.2.2 hw2.2.2.2.2.2 hT.2.2.2⟩ hP hD hS hl
theorem gdL_law_740 : decode cL_law 740 = .ok (.aload_n 1, 1) ∧ decode cL_law 741 = .ok (.aload_n 0, 1) ∧ decode cL_law 742 = .ok (.iload_n 3, 1) ∧ decode cL_law 743 = .ok (.iconst 1, 1) ∧ decode cL_law 744 = .ok (.iadd, 1) ∧ decode cL_law 745 = .ok (.iaload, 1) ∧ decode cL_law 746 = .ok (.aload_n 0, 1) ∧ decode cL_law 747 = .ok (.iload_n 3, 1) ∧ decode cL_law 748 = .ok (.iconst 2, 1) ∧ decode cL_law 749 = .ok (.iadd, 1) ∧ decode cL_law 750 = .ok (.iaload, 1) ∧ decode cL_law 751 = .ok (.aload_n 0, 1) := by decide +kernel
theorem dL_law_740 : decode cL_law 740 = .ok (.aload_n 1, 1) := gdL_law_740.1
theorem dL_law_741 : decode cL_law 741 = .ok (.aload_n 0, 1) := gdL_law_740.2.1
theorem dL_law_742 : decode cL_law 742 = .ok (.iload_n 3, 1) := gdL_law_740.2.2.1
theorem dL_law_743 : decode cL_law 743 = .ok (.iconst 1, 1) := gdL_law_740.2.2.2.1
theorem dL_law_744 : decode cL_law 744 = .ok (.iadd, 1) := gdL_law_740.2.2.2.2.1
theorem dL_law_745 : decode cL_law 745 = .ok (.iaload, 1) := gdL_law_740.2.2.2.2.2.1
theorem dL_law_746 : decode cL_law 746 = .ok (.aload_n 0, 1) := gdL_law_740.2.2.2.2.2.2.1
theorem dL_law_747 : decode cL_law 747 = .ok (.iload_n 3, 1) := gdL_law_740.2.2.2.2.2.2.2.1
theorem dL_law_748 : decode cL_law 748 = .ok (.iconst 2, 1) := gdL_law_740.2.2.2.2.2.2.2.2.1
theorem dL_law_749 : decode cL_law 749 = .ok (.iadd, 1) := gdL_law_740.2.2.2.2.2.2.2.2.2.1
theorem dL_law_750 : decode cL_law 750 = .ok (.iaload, 1) := gdL_law_740.2.2.2.2.2.2.2.2.2.2.1
theorem dL_law_751 : decode cL_law 751 = .ok (.aload_n 0, 1) := gdL_law_740.2.2.2.2.2.2.2.2.2.2.2
theorem gdL_law_752 : decode cL_law 752 = .ok (.iload_n 3, 1) ∧ decode cL_law 753 = .ok (.iconst 3, 1) ∧ decode cL_law 754 = .ok (.iadd, 1) ∧ decode cL_law 755 = .ok (.iaload, 1) ∧ decode cL_law 756 = .ok (.invokevirtual 98, 3) := by decide +kernel
theorem dL_law_752 : decode cL_law 752 = .ok (.iload_n 3, 1) := gdL_law_752.1
theorem dL_law_753 : decode cL_law 753 = .ok (.iconst 3, 1) := gdL_law_752.2.1
theorem dL_law_754 : decode cL_law 754 = .ok (.iadd, 1) := gdL_law_752.2.2.1
theorem dL_law_755 : decode cL_law 755 = .ok (.iaload, 1) := gdL_law_752.2.2.2.1
theorem dL_law_756 : decode cL_law 756 = .ok (.invokevirtual 98, 3) := gdL_law_752.2.2.2.2
theorem k_L_98 : xV RL RX11 98 yX11_ahead cX11_ahead 5 (some .int) 3 := ⟨⟨m_1190, m_1191, m_1192, m_130, m_1193⟩, rfl, by decide, by decide, by decide +kernel⟩
theorem gdL_law_759 : decode cL_law 759 = .ok (.pop, 1) ∧ decode cL_law 760 = .ok (.aload_n 2, 1) ∧ decode cL_law 761 = .ok (.aload_n 0, 1) ∧ decode cL_law 762 = .ok (.iload_n 3, 1) ∧ decode cL_law 763 = .ok (.iconst 1, 1) ∧ decode cL_law 764 = .ok (.iadd, 1) ∧ decode cL_law 765 = .ok (.iaload, 1) ∧ decode cL_law 766 = .ok (.aload_n 0, 1) ∧ decode cL_law 767 = .ok (.iload_n 3, 1) ∧ decode cL_law 768 = .ok (.iconst 2, 1) ∧ decode cL_law 769 = .ok (.iadd, 1) ∧ decode cL_law 770 = .ok (.iaload, 1) := by decide +kernel
theorem dL_law_759 : decode cL_law 759 = .ok (.pop, 1) := gdL_law_759.1
theorem dL_law_760 : decode cL_law 760 = .ok (.aload_n 2, 1) := gdL_law_759.2.1
theorem dL_law_761 : decode cL_law 761 = .ok (.aload_n 0, 1) := gdL_law_759.2.2.1
theorem dL_law_762 : decode cL_law 762 = .ok (.iload_n 3, 1) := gdL_law_759.2.2.2.1
theorem dL_law_763 : decode cL_law 763 = .ok (.iconst 1, 1) := gdL_law_759.2.2.2.2.1
theorem dL_law_764 : decode cL_law 764 = .ok (.iadd, 1) := gdL_law_759.2.2.2.2.2.1
theorem dL_law_765 : decode cL_law 765 = .ok (.iaload, 1) := gdL_law_759.2.2.2.2.2.2.1
theorem dL_law_766 : decode cL_law 766 = .ok (.aload_n 0, 1) := gdL_law_759.2.2.2.2.2.2.2.1
theorem dL_law_767 : decode cL_law 767 = .ok (.iload_n 3, 1) := gdL_law_759.2.2.2.2.2.2.2.2.1
theorem dL_law_768 : decode cL_law 768 = .ok (.iconst 2, 1) := gdL_law_759.2.2.2.2.2.2.2.2.2.1
theorem dL_law_769 : decode cL_law 769 = .ok (.iadd, 1) := gdL_law_759.2.2.2.2.2.2.2.2.2.2.1
theorem dL_law_770 : decode cL_law 770 = .ok (.iaload, 1) := gdL_law_759.2.2.2.2.2.2.2.2.2.2.2
theorem gdL_law_771 : decode cL_law 771 = .ok (.aload_n 0, 1) ∧ decode cL_law 772 = .ok (.iload_n 3, 1) ∧ decode cL_law 773 = .ok (.iconst 3, 1) ∧ decode cL_law 774 = .ok (.iadd, 1) ∧ decode cL_law 775 = .ok (.iaload, 1) ∧ decode cL_law 776 = .ok (.invokevirtual 102, 3) := by decide +kernel
theorem dL_law_771 : decode cL_law 771 = .ok (.aload_n 0, 1) := gdL_law_771.1
theorem dL_law_772 : decode cL_law 772 = .ok (.iload_n 3, 1) := gdL_law_771.2.1
theorem dL_law_773 : decode cL_law 773 = .ok (.iconst 3, 1) := gdL_law_771.2.2.1
theorem dL_law_774 : decode cL_law 774 = .ok (.iadd, 1) := gdL_law_771.2.2.2.1
theorem dL_law_775 : decode cL_law 775 = .ok (.iaload, 1) := gdL_law_771.2.2.2.2.1
theorem dL_law_776 : decode cL_law 776 = .ok (.invokevirtual 102, 3) := gdL_law_771.2.2.2.2.2
theorem k_L_102 : xV RL RX12 102 yX12_ahead cX12_ahead 7 (some .int) 3 := ⟨⟨m_2045, m_2046, m_2047, m_146, m_2048⟩, rfl, by decide, by decide, by decide +kernel⟩
theorem dL_law_779 : decode cL_law 779 = .ok (.pop, 1) := by decide +kernel
theorem dL_law_780 : decode cL_law 780 = .ok (.goto 464, 3) := by decide +kernel
set_option maxHeartbeats 4000000 in
set_option maxRecDepth 100000 in
theorem lc_ahead {p : Program} {e : Env} {s : State} {m : MethodId} {below : List Frame} {meth : Method} {c : Code} (l : Launch) {D : va_G} {cy : Nat → ClassId} {A : Nat → Prop} {b L : Nat} {xs : Nat → Int32} (hL : L ≤ 3072) (C : lwC p s m meth c b L xs D cy A) {adK adV : Nat → Nat} (hE : EV adK adV A s) (x0 m0 : Nat) {i : Nat} (hi : i + 6 ≤ L) (hk : lwW p l e s m below meth c b D cy A x0 m0 i 1244) : lwW p l e s m below meth c b D cy A x0 m0 i 740 := by
  obtain ⟨hx, hb, hr, hml, hown, hg, hlocks, hX, hbl, hK, hA, hAr, hbA⟩ := C
  intro u v H locs ls hu hv hT hP hD hS hl
  refine lv_aload_n hx hb dL_law_740 rfl (lv_at hl 2 rfl) ?_
  refine lv_aload_n hx hb dL_law_741 rfl (lv_at hl 3 rfl) ?_
  refine lv_iload_n hx hb dL_law_742 rfl (lv_at hl 0 rfl) ?_
  refine lv_iconst (v := 1) hx hb dL_law_743 (by decide) ?_
  refine lv_iadd hx hb dL_law_744 ?_
  refine lv_topi (fun y_1 hy_1 => ?_)
  obtain rfl : y_1 = nI (i + 1) := hy_1.trans (nI_add i 1)
  refine va_sld hx hb hX hbl hbA hS (vp_in_nI (by omega) (by omega)) dL_law_745 ?_
  refine lv_aload_n hx hb dL_law_746 rfl (lv_at hl 3 rfl) ?_
  refine lv_iload_n hx hb dL_law_747 rfl (lv_at hl 0 rfl) ?_
  refine lv_iconst (v := 2) hx hb dL_law_748 (by decide) ?_
  refine lv_iadd hx hb dL_law_749 ?_
  refine lv_topi (fun y_2 hy_2 => ?_)
  obtain rfl : y_2 = nI (i + 2) := hy_2.trans (nI_add i 2)
  refine va_sld hx hb hX hbl hbA hS (vp_in_nI (by omega) (by omega)) dL_law_750 ?_
  refine lv_aload_n hx hb dL_law_751 rfl (lv_at hl 3 rfl) ?_
  refine lv_iload_n hx hb dL_law_752 rfl (lv_at hl 0 rfl) ?_
  refine lv_iconst (v := 3) hx hb dL_law_753 (by decide) ?_
  refine lv_iadd hx hb dL_law_754 ?_
  refine lv_topi (fun y_3 hy_3 => ?_)
  obtain rfl : y_3 = nI (i + 3) := hy_3.trans (nI_add i 3)
  refine va_sld hx hb hX hbl hbA hS (vp_in_nI (by omega) (by omega)) dL_law_755 ?_
  refine x_callVi (q := (RX11, TX11, 14)) (ci := 11) (q0 := 0) (wr := IM cy m0 v) (rest := []) ⟨hx, hb, hml, hown, hg, hl.1⟩ k_L_98 (tx_ahead l D cy x0 u hu (xs (nI (i + 1) : Int32).toNatClampNeg) (xs (nI (i + 2) : Int32).toNatClampNeg) (xs (nI (i + 3) : Int32).toNatClampNeg)) E0_blind hK hP hD hS hA [0, 1, 2, 3, 4, 5, 6, 7, 8, 9, 10, 11, 12, 13, 14, 15, 16, 17, 18, 19, 20, 21, 22, 23, 24, 25, 26, 27, 28, 29, 30, 31, 32, 33, 34, 35, 36, 37, 38, 39, 40, 41, 42, 43, 44, 45, 46, 47, 48, 49, 50, 51, 52, 53, 54, 55, 56, 57, 58, 59, 60, 61, 62, 63, 64, 65, 66, 67, 68, 69, 70, 71, 72, 73, 74, 75, 76, 77, 78, 79, 80, 81, 82, 83, 84, 85, 86, 87, 88, 89, 90, 91, 92, 93] [94, 95, 96, 97, 98, 99, 100, 101, 102, 103, 104, 105, 106, 107, 108, 109, 110, 111, 112, 113, 114, 115, 116, 117, 118, 119, 120, 121, 122, 123, 124, 125, 126, 127, 128, 129, 130, 131, 132, 133, 134, 135, 136, 137, 138, 139, 140, 141] (cutX cy x0 m0 u v) rfl rfl (fun _ _ _ => trivial) dL_law_756 rfl rfl (Nat.le_of_ble_eq_true rfl) ⟨Nat.le_of_ble_eq_true rfl, Nat.le_of_ble_eq_true rfl⟩ ⟨Nat.le_of_ble_eq_true rfl, Nat.le_of_ble_eq_true rfl⟩ (fun r1 u2 H locs hw1 hP9 hD9 hS9 => ?_)
  clear hP hD hS
  have hP := hP9
  have hD := hD9
  have hS := hS9
  clear hP9 hD9 hS9
  refine W.widen (k := 142) (n := 14416) (Nat.le_of_ble_eq_true rfl) (Nat.le_of_ble_eq_true rfl) ?_
  refine lv_pop hx hb dL_law_759 rfl ?_
  refine lv_aload_n hx hb dL_law_760 rfl (lv_at hl 1 rfl) ?_
  refine lv_aload_n hx hb dL_law_761 rfl (lv_at hl 3 rfl) ?_
  refine lv_iload_n hx hb dL_law_762 rfl (lv_at hl 0 rfl) ?_
  refine lv_iconst (v := 1) hx hb dL_law_763 (by decide) ?_
  refine lv_iadd hx hb dL_law_764 ?_
  refine lv_topi (fun y_4 hy_4 => ?_)
  obtain rfl : y_4 = nI (i + 1) := hy_4.trans (nI_add i 1)
  refine va_sld hx hb hX hbl hbA hS (vp_in_nI (by omega) (by omega)) dL_law_765 ?_
  refine lv_aload_n hx hb dL_law_766 rfl (lv_at hl 3 rfl) ?_
  refine lv_iload_n hx hb dL_law_767 rfl (lv_at hl 0 rfl) ?_
  refine lv_iconst (v := 2) hx hb dL_law_768 (by decide) ?_
  refine lv_iadd hx hb dL_law_769 ?_
  refine lv_topi (fun y_5 hy_5 => ?_)
  obtain rfl : y_5 = nI (i + 2) := hy_5.trans (nI_add i 2)
  refine va_sld hx hb hX hbl hbA hS (vp_in_nI (by omega) (by omega)) dL_law_770 ?_
  refine lv_aload_n hx hb dL_law_771 rfl (lv_at hl 3 rfl) ?_
  refine lv_iload_n hx hb dL_law_772 rfl (lv_at hl 0 rfl) ?_
  refine lv_iconst (v := 3) hx hb dL_law_773 (by decide) ?_
  refine lv_iadd hx hb dL_law_774 ?_
  refine lv_topi (fun y_6 hy_6 => ?_)
  obtain rfl : y_6 = nI (i + 3) := hy_6.trans (nI_add i 3)
  refine va_sld hx hb hX hbl hbA hS (vp_in_nI (by omega) (by omega)) dL_law_775 ?_
  refine x_callVi (q := (RX12, TX12, 89)) (ci := 12) (q0 := 0) (wr := IX cy x0 u2) (rest := []) ⟨hx, hb, hml, hown, hg, hl.1⟩ k_L_102 (tm_ahead l D cy m0 v hv (xs (nI (i + 1) : Int32).toNatClampNeg) (xs (nI (i + 2) : Int32).toNatClampNeg) (xs (nI (i + 3) : Int32).toNatClampNeg)) E0_blind hK hP hD hS hA [0, 1, 2, 3, 4, 5, 6, 7, 8, 9, 10, 11, 12, 13, 14, 15, 16, 17, 18, 19, 20, 21, 22, 23, 24, 25, 26, 27, 28, 29, 30, 31, 32, 33, 34, 35, 36, 37, 38, 39, 40, 41, 42, 43, 44, 45, 46, 47] [48, 49, 50, 51, 52, 53, 54, 55, 56, 57, 58, 59, 60, 61, 62, 63, 64, 65, 66, 67, 68, 69, 70, 71, 72, 73, 74, 75, 76, 77, 78, 79, 80, 81, 82, 83, 84, 85, 86, 87, 88, 89, 90, 91, 92, 93, 94, 95, 96, 97, 98, 99, 100, 101, 102, 103, 104, 105, 106, 107, 108, 109, 110, 111, 112, 113, 114, 115, 116, 117, 118, 119, 120, 121, 122, 123, 124, 125, 126, 127, 128, 129, 130, 131, 132, 133, 134, 135, 136, 137, 138, 139, 140, 141] (cutM cy x0 m0 u2 v) rfl rfl (fun _ _ _ => trivial) dL_law_776 rfl rfl (Nat.le_of_ble_eq_true rfl) ⟨Nat.le_of_ble_eq_true rfl, Nat.le_of_ble_eq_true rfl⟩ ⟨Nat.le_of_ble_eq_true rfl, Nat.le_of_ble_eq_true rfl⟩ (fun r2 v2 H locs hw2 hP9 hD9 hS9 => ?_)
  clear hP hD hS
  have hP := hP9
  have hD := hD9
  have hS := hS9
  clear hP9 hD9 hS9
  refine W.widen (k := 142) (n := 14416) (Nat.le_of_ble_eq_true rfl) (Nat.le_of_ble_eq_true rfl) ?_
  refine lv_pop hx hb dL_law_779 rfl ?_
  refine lv_goto (tgt := 1244) hx hb dL_law_780 (by decide) ?_
  exact hk u2 v2 H locs ls hw1.1 hw2.1 ⟨(sm_d hT.1 hw1.2.1 hw2.2.1), RH_eq hT.2.1 hw1.2.2.1 hw2.2.2.1, RS_eq hT.2.2.1 hw1.2.1.2.1 hw1.2.2.2.1 hw2.2.2.2.1, RMt_of hw1.2.2.2.2.2 hw2.2.2.2.2.2 hT.2.2.2⟩ hP hD hS hl
theorem gdL_law_783 : decode cL_law 783 = .ok (.aload_n 1, 1) ∧ decode cL_law 784 = .ok (.aload_n 0, 1) ∧ decode cL_law 785 = .ok (.iload_n 3, 1) ∧ decode cL_law 786 = .ok (.iconst 1, 1) ∧ decode cL_law 787 = .ok (.iadd, 1) ∧ decode cL_law 788 = .ok (.iaload, 1) ∧ decode cL_law 789 = .ok (.aload_n 0, 1) ∧ decode cL_law 790 = .ok (.iload_n 3, 1) ∧ decode cL_law 791 = .ok (.iconst 2, 1) ∧ decode cL_law 792 = .ok (.iadd, 1) ∧ decode cL_law 793 = .ok (.iaload, 1) ∧ decode cL_law 794 = .ok (.invokevirtual 103, 3) := by decide +kernel
theorem dL_law_783 : decode cL_law 783 = .ok (.aload_n 1, 1) := gdL_law_783.1
theorem dL_law_784 : decode cL_law 784 = .ok (.aload_n 0, 1) := gdL_law_783.2.1
theorem dL_law_785 : decode cL_law 785 = .ok (.iload_n 3, 1) := gdL_law_783.2.2.1
theorem dL_law_786 : decode cL_law 786 = .ok (.iconst 1, 1) := gdL_law_783.2.2.2.1
theorem dL_law_787 : decode cL_law 787 = .ok (.iadd, 1) := gdL_law_783.2.2.2.2.1
theorem dL_law_788 : decode cL_law 788 = .ok (.iaload, 1) := gdL_law_783.2.2.2.2.2.1
theorem dL_law_789 : decode cL_law 789 = .ok (.aload_n 0, 1) := gdL_law_783.2.2.2.2.2.2.1
theorem dL_law_790 : decode cL_law 790 = .ok (.iload_n 3, 1) := gdL_law_783.2.2.2.2.2.2.2.1
theorem dL_law_791 : decode cL_law 791 = .ok (.iconst 2, 1) := gdL_law_783.2.2.2.2.2.2.2.2.1
theorem dL_law_792 : decode cL_law 792 = .ok (.iadd, 1) := gdL_law_783.2.2.2.2.2.2.2.2.2.1
theorem dL_law_793 : decode cL_law 793 = .ok (.iaload, 1) := gdL_law_783.2.2.2.2.2.2.2.2.2.2.1
theorem dL_law_794 : decode cL_law 794 = .ok (.invokevirtual 103, 3) := gdL_law_783.2.2.2.2.2.2.2.2.2.2.2
theorem k_L_103 : xV RL RX11 103 yX11_yeas cX11_yeas 7 (some .int) 2 := ⟨⟨m_1215, m_1216, m_1217, m_130, m_1218⟩, rfl, by decide, by decide, by decide +kernel⟩
theorem gdL_law_797 : decode cL_law 797 = .ok (.pop, 1) ∧ decode cL_law 798 = .ok (.aload_n 2, 1) ∧ decode cL_law 799 = .ok (.aload_n 0, 1) ∧ decode cL_law 800 = .ok (.iload_n 3, 1) ∧ decode cL_law 801 = .ok (.iconst 1, 1) ∧ decode cL_law 802 = .ok (.iadd, 1) ∧ decode cL_law 803 = .ok (.iaload, 1) ∧ decode cL_law 804 = .ok (.aload_n 0, 1) ∧ decode cL_law 805 = .ok (.iload_n 3, 1) ∧ decode cL_law 806 = .ok (.iconst 2, 1) ∧ decode cL_law 807 = .ok (.iadd, 1) ∧ decode cL_law 808 = .ok (.iaload, 1) := by decide +kernel
theorem dL_law_797 : decode cL_law 797 = .ok (.pop, 1) := gdL_law_797.1
theorem dL_law_798 : decode cL_law 798 = .ok (.aload_n 2, 1) := gdL_law_797.2.1
theorem dL_law_799 : decode cL_law 799 = .ok (.aload_n 0, 1) := gdL_law_797.2.2.1
theorem dL_law_800 : decode cL_law 800 = .ok (.iload_n 3, 1) := gdL_law_797.2.2.2.1
theorem dL_law_801 : decode cL_law 801 = .ok (.iconst 1, 1) := gdL_law_797.2.2.2.2.1
theorem dL_law_802 : decode cL_law 802 = .ok (.iadd, 1) := gdL_law_797.2.2.2.2.2.1
theorem dL_law_803 : decode cL_law 803 = .ok (.iaload, 1) := gdL_law_797.2.2.2.2.2.2.1
theorem dL_law_804 : decode cL_law 804 = .ok (.aload_n 0, 1) := gdL_law_797.2.2.2.2.2.2.2.1
theorem dL_law_805 : decode cL_law 805 = .ok (.iload_n 3, 1) := gdL_law_797.2.2.2.2.2.2.2.2.1
theorem dL_law_806 : decode cL_law 806 = .ok (.iconst 2, 1) := gdL_law_797.2.2.2.2.2.2.2.2.2.1
theorem dL_law_807 : decode cL_law 807 = .ok (.iadd, 1) := gdL_law_797.2.2.2.2.2.2.2.2.2.2.1
theorem dL_law_808 : decode cL_law 808 = .ok (.iaload, 1) := gdL_law_797.2.2.2.2.2.2.2.2.2.2.2
theorem dL_law_809 : decode cL_law 809 = .ok (.invokevirtual 106, 3) := by decide +kernel
theorem k_L_106 : xV RL RX12 106 yX12_yeas cX12_yeas 7 (some .int) 2 := ⟨⟨m_2053, m_2054, m_2055, m_146, m_2056⟩, rfl, by decide, by decide, by decide +kernel⟩
theorem dL_law_812 : decode cL_law 812 = .ok (.pop, 1) := by decide +kernel
theorem dL_law_813 : decode cL_law 813 = .ok (.goto 431, 3) := by decide +kernel
set_option maxHeartbeats 4000000 in
set_option maxRecDepth 100000 in
theorem lc_yeas {p : Program} {e : Env} {s : State} {m : MethodId} {below : List Frame} {meth : Method} {c : Code} (l : Launch) {D : va_G} {cy : Nat → ClassId} {A : Nat → Prop} {b L : Nat} {xs : Nat → Int32} (hL : L ≤ 3072) (C : lwC p s m meth c b L xs D cy A) {adK adV : Nat → Nat} (hE : EV adK adV A s) (x0 m0 : Nat) {i : Nat} (hi : i + 6 ≤ L) (hk : lwW p l e s m below meth c b D cy A x0 m0 i 1244) : lwW p l e s m below meth c b D cy A x0 m0 i 783 := by
  obtain ⟨hx, hb, hr, hml, hown, hg, hlocks, hX, hbl, hK, hA, hAr, hbA⟩ := C
  intro u v H locs ls hu hv hT hP hD hS hl
  refine lv_aload_n hx hb dL_law_783 rfl (lv_at hl 2 rfl) ?_
  refine lv_aload_n hx hb dL_law_784 rfl (lv_at hl 3 rfl) ?_
  refine lv_iload_n hx hb dL_law_785 rfl (lv_at hl 0 rfl) ?_
  refine lv_iconst (v := 1) hx hb dL_law_786 (by decide) ?_
  refine lv_iadd hx hb dL_law_787 ?_
  refine lv_topi (fun y_1 hy_1 => ?_)
  obtain rfl : y_1 = nI (i + 1) := hy_1.trans (nI_add i 1)
  refine va_sld hx hb hX hbl hbA hS (vp_in_nI (by omega) (by omega)) dL_law_788 ?_
  refine lv_aload_n hx hb dL_law_789 rfl (lv_at hl 3 rfl) ?_
  refine lv_iload_n hx hb dL_law_790 rfl (lv_at hl 0 rfl) ?_
  refine lv_iconst (v := 2) hx hb dL_law_791 (by decide) ?_
  refine lv_iadd hx hb dL_law_792 ?_
  refine lv_topi (fun y_2 hy_2 => ?_)
  obtain rfl : y_2 = nI (i + 2) := hy_2.trans (nI_add i 2)
  refine va_sld hx hb hX hbl hbA hS (vp_in_nI (by omega) (by omega)) dL_law_793 ?_
  refine x_callVi (q := (RX11, TX11, 14)) (ci := 11) (q0 := 0) (wr := IM cy m0 v) (rest := []) ⟨hx, hb, hml, hown, hg, hl.1⟩ k_L_103 (tx_yeas l D cy x0 u hu (xs (nI (i + 1) : Int32).toNatClampNeg) (xs (nI (i + 2) : Int32).toNatClampNeg)) E0_blind hK hP hD hS hA [0, 1, 2, 3, 4, 5, 6, 7, 8, 9, 10, 11, 12, 13, 14, 15, 16, 17, 18, 19, 20, 21, 22, 23, 24, 25, 26, 27, 28, 29, 30, 31, 32, 33, 34, 35, 36, 37, 38, 39, 40, 41, 42, 43, 44, 45, 46, 47, 48, 49, 50, 51, 52, 53, 54, 55, 56, 57, 58, 59, 60, 61, 62, 63, 64, 65, 66, 67, 68, 69, 70, 71, 72, 73, 74, 75, 76, 77, 78, 79, 80, 81, 82, 83, 84, 85, 86, 87, 88, 89, 90, 91, 92, 93] [94, 95, 96, 97, 98, 99, 100, 101, 102, 103, 104, 105, 106, 107, 108, 109, 110, 111, 112, 113, 114, 115, 116, 117, 118, 119, 120, 121, 122, 123, 124, 125, 126, 127, 128, 129, 130, 131, 132, 133, 134, 135, 136, 137, 138, 139, 140, 141] (cutX cy x0 m0 u v) rfl rfl (fun _ _ _ => trivial) dL_law_794 rfl rfl (Nat.le_of_ble_eq_true rfl) ⟨Nat.le_of_ble_eq_true rfl, Nat.le_of_ble_eq_true rfl⟩ ⟨Nat.le_of_ble_eq_true rfl, Nat.le_of_ble_eq_true rfl⟩ (fun r1 u2 H locs hw1 hP9 hD9 hS9 => ?_)
  clear hP hD hS
  have hP := hP9
  have hD := hD9
  have hS := hS9
  clear hP9 hD9 hS9
  refine W.widen (k := 142) (n := 14416) (Nat.le_of_ble_eq_true rfl) (Nat.le_of_ble_eq_true rfl) ?_
  refine lv_pop hx hb dL_law_797 rfl ?_
  refine lv_aload_n hx hb dL_law_798 rfl (lv_at hl 1 rfl) ?_
  refine lv_aload_n hx hb dL_law_799 rfl (lv_at hl 3 rfl) ?_
  refine lv_iload_n hx hb dL_law_800 rfl (lv_at hl 0 rfl) ?_
  refine lv_iconst (v := 1) hx hb dL_law_801 (by decide) ?_
  refine lv_iadd hx hb dL_law_802 ?_
  refine lv_topi (fun y_3 hy_3 => ?_)
  obtain rfl : y_3 = nI (i + 1) := hy_3.trans (nI_add i 1)
  refine va_sld hx hb hX hbl hbA hS (vp_in_nI (by omega) (by omega)) dL_law_803 ?_
  refine lv_aload_n hx hb dL_law_804 rfl (lv_at hl 3 rfl) ?_
  refine lv_iload_n hx hb dL_law_805 rfl (lv_at hl 0 rfl) ?_
  refine lv_iconst (v := 2) hx hb dL_law_806 (by decide) ?_
  refine lv_iadd hx hb dL_law_807 ?_
  refine lv_topi (fun y_4 hy_4 => ?_)
  obtain rfl : y_4 = nI (i + 2) := hy_4.trans (nI_add i 2)
  refine va_sld hx hb hX hbl hbA hS (vp_in_nI (by omega) (by omega)) dL_law_808 ?_
  refine x_callVi (q := (RX12, TX12, 89)) (ci := 12) (q0 := 0) (wr := IX cy x0 u2) (rest := []) ⟨hx, hb, hml, hown, hg, hl.1⟩ k_L_106 (tm_yeas l D cy m0 v hv (xs (nI (i + 1) : Int32).toNatClampNeg) (xs (nI (i + 2) : Int32).toNatClampNeg)) E0_blind hK hP hD hS hA [0, 1, 2, 3, 4, 5, 6, 7, 8, 9, 10, 11, 12, 13, 14, 15, 16, 17, 18, 19, 20, 21, 22, 23, 24, 25, 26, 27, 28, 29, 30, 31, 32, 33, 34, 35, 36, 37, 38, 39, 40, 41, 42, 43, 44, 45, 46, 47] [48, 49, 50, 51, 52, 53, 54, 55, 56, 57, 58, 59, 60, 61, 62, 63, 64, 65, 66, 67, 68, 69, 70, 71, 72, 73, 74, 75, 76, 77, 78, 79, 80, 81, 82, 83, 84, 85, 86, 87, 88, 89, 90, 91, 92, 93, 94, 95, 96, 97, 98, 99, 100, 101, 102, 103, 104, 105, 106, 107, 108, 109, 110, 111, 112, 113, 114, 115, 116, 117, 118, 119, 120, 121, 122, 123, 124, 125, 126, 127, 128, 129, 130, 131, 132, 133, 134, 135, 136, 137, 138, 139, 140, 141] (cutM cy x0 m0 u2 v) rfl rfl (fun _ _ _ => trivial) dL_law_809 rfl rfl (Nat.le_of_ble_eq_true rfl) ⟨Nat.le_of_ble_eq_true rfl, Nat.le_of_ble_eq_true rfl⟩ ⟨Nat.le_of_ble_eq_true rfl, Nat.le_of_ble_eq_true rfl⟩ (fun r2 v2 H locs hw2 hP9 hD9 hS9 => ?_)
  clear hP hD hS
  have hP := hP9
  have hD := hD9
  have hS := hS9
  clear hP9 hD9 hS9
  refine W.widen (k := 142) (n := 14416) (Nat.le_of_ble_eq_true rfl) (Nat.le_of_ble_eq_true rfl) ?_
  refine lv_pop hx hb dL_law_812 rfl ?_
  refine lv_goto (tgt := 1244) hx hb dL_law_813 (by decide) ?_
  exact hk u2 v2 H locs ls hw1.1 hw2.1 ⟨(sm_d hT.1 hw1.2.1 hw2.2.1), RH_eq hT.2.1 hw1.2.2.1 hw2.2.2.1, RS_eq hT.2.2.1 hw1.2.1.2.1 hw1.2.2.2.1 hw2.2.2.2.1, RMt_of hw1.2.2.2.2.2 hw2.2.2.2.2.2 hT.2.2.2⟩ hP hD hS hl
theorem gdL_law_816 : decode cL_law 816 = .ok (.aload_n 1, 1) ∧ decode cL_law 817 = .ok (.aload_n 0, 1) ∧ decode cL_law 818 = .ok (.iload_n 3, 1) ∧ decode cL_law 819 = .ok (.iconst 1, 1) ∧ decode cL_law 820 = .ok (.iadd, 1) ∧ decode cL_law 821 = .ok (.iaload, 1) ∧ decode cL_law 822 = .ok (.aload_n 0, 1) ∧ decode cL_law 823 = .ok (.iload_n 3, 1) ∧ decode cL_law 824 = .ok (.iconst 2, 1) ∧ decode cL_law 825 = .ok (.iadd, 1) ∧ decode cL_law 826 = .ok (.iaload, 1) ∧ decode cL_law 827 = .ok (.invokevirtual 107, 3) := by decide +kernel
theorem dL_law_816 : decode cL_law 816 = .ok (.aload_n 1, 1) := gdL_law_816.1
theorem dL_law_817 : decode cL_law 817 = .ok (.aload_n 0, 1) := gdL_law_816.2.1
theorem dL_law_818 : decode cL_law 818 = .ok (.iload_n 3, 1) := gdL_law_816.2.2.1
theorem dL_law_819 : decode cL_law 819 = .ok (.iconst 1, 1) := gdL_law_816.2.2.2.1
theorem dL_law_820 : decode cL_law 820 = .ok (.iadd, 1) := gdL_law_816.2.2.2.2.1
theorem dL_law_821 : decode cL_law 821 = .ok (.iaload, 1) := gdL_law_816.2.2.2.2.2.1
theorem dL_law_822 : decode cL_law 822 = .ok (.aload_n 0, 1) := gdL_law_816.2.2.2.2.2.2.1
theorem dL_law_823 : decode cL_law 823 = .ok (.iload_n 3, 1) := gdL_law_816.2.2.2.2.2.2.2.1
theorem dL_law_824 : decode cL_law 824 = .ok (.iconst 2, 1) := gdL_law_816.2.2.2.2.2.2.2.2.1
theorem dL_law_825 : decode cL_law 825 = .ok (.iadd, 1) := gdL_law_816.2.2.2.2.2.2.2.2.2.1
theorem dL_law_826 : decode cL_law 826 = .ok (.iaload, 1) := gdL_law_816.2.2.2.2.2.2.2.2.2.2.1
theorem dL_law_827 : decode cL_law 827 = .ok (.invokevirtual 107, 3) := gdL_law_816.2.2.2.2.2.2.2.2.2.2.2
theorem k_L_107 : xV RL RX11 107 yX11_clears cX11_clears 6 (some .int) 2 := ⟨⟨m_1222, m_1223, m_1224, m_130, m_1225⟩, rfl, by decide, by decide, by decide +kernel⟩
theorem gdL_law_830 : decode cL_law 830 = .ok (.pop, 1) ∧ decode cL_law 831 = .ok (.aload_n 2, 1) ∧ decode cL_law 832 = .ok (.aload_n 0, 1) ∧ decode cL_law 833 = .ok (.iload_n 3, 1) ∧ decode cL_law 834 = .ok (.iconst 1, 1) ∧ decode cL_law 835 = .ok (.iadd, 1) ∧ decode cL_law 836 = .ok (.iaload, 1) ∧ decode cL_law 837 = .ok (.aload_n 0, 1) ∧ decode cL_law 838 = .ok (.iload_n 3, 1) ∧ decode cL_law 839 = .ok (.iconst 2, 1) ∧ decode cL_law 840 = .ok (.iadd, 1) ∧ decode cL_law 841 = .ok (.iaload, 1) := by decide +kernel
theorem dL_law_830 : decode cL_law 830 = .ok (.pop, 1) := gdL_law_830.1
theorem dL_law_831 : decode cL_law 831 = .ok (.aload_n 2, 1) := gdL_law_830.2.1
theorem dL_law_832 : decode cL_law 832 = .ok (.aload_n 0, 1) := gdL_law_830.2.2.1
theorem dL_law_833 : decode cL_law 833 = .ok (.iload_n 3, 1) := gdL_law_830.2.2.2.1
theorem dL_law_834 : decode cL_law 834 = .ok (.iconst 1, 1) := gdL_law_830.2.2.2.2.1
theorem dL_law_835 : decode cL_law 835 = .ok (.iadd, 1) := gdL_law_830.2.2.2.2.2.1
theorem dL_law_836 : decode cL_law 836 = .ok (.iaload, 1) := gdL_law_830.2.2.2.2.2.2.1
theorem dL_law_837 : decode cL_law 837 = .ok (.aload_n 0, 1) := gdL_law_830.2.2.2.2.2.2.2.1
theorem dL_law_838 : decode cL_law 838 = .ok (.iload_n 3, 1) := gdL_law_830.2.2.2.2.2.2.2.2.1
theorem dL_law_839 : decode cL_law 839 = .ok (.iconst 2, 1) := gdL_law_830.2.2.2.2.2.2.2.2.2.1
theorem dL_law_840 : decode cL_law 840 = .ok (.iadd, 1) := gdL_law_830.2.2.2.2.2.2.2.2.2.2.1
theorem dL_law_841 : decode cL_law 841 = .ok (.iaload, 1) := gdL_law_830.2.2.2.2.2.2.2.2.2.2.2
theorem dL_law_842 : decode cL_law 842 = .ok (.invokevirtual 110, 3) := by decide +kernel
theorem k_L_110 : xV RL RX12 110 yX12_clears cX12_clears 6 (some .int) 2 := ⟨⟨m_2057, m_2058, m_2059, m_146, m_2060⟩, rfl, by decide, by decide, by decide +kernel⟩
theorem dL_law_845 : decode cL_law 845 = .ok (.pop, 1) := by decide +kernel
theorem dL_law_846 : decode cL_law 846 = .ok (.goto 398, 3) := by decide +kernel
set_option maxHeartbeats 4000000 in
set_option maxRecDepth 100000 in
theorem lc_clears {p : Program} {e : Env} {s : State} {m : MethodId} {below : List Frame} {meth : Method} {c : Code} (l : Launch) {D : va_G} {cy : Nat → ClassId} {A : Nat → Prop} {b L : Nat} {xs : Nat → Int32} (hL : L ≤ 3072) (C : lwC p s m meth c b L xs D cy A) {adK adV : Nat → Nat} (hE : EV adK adV A s) (x0 m0 : Nat) {i : Nat} (hi : i + 6 ≤ L) (hk : lwW p l e s m below meth c b D cy A x0 m0 i 1244) : lwW p l e s m below meth c b D cy A x0 m0 i 816 := by
  obtain ⟨hx, hb, hr, hml, hown, hg, hlocks, hX, hbl, hK, hA, hAr, hbA⟩ := C
  intro u v H locs ls hu hv hT hP hD hS hl
  refine lv_aload_n hx hb dL_law_816 rfl (lv_at hl 2 rfl) ?_
  refine lv_aload_n hx hb dL_law_817 rfl (lv_at hl 3 rfl) ?_
  refine lv_iload_n hx hb dL_law_818 rfl (lv_at hl 0 rfl) ?_
  refine lv_iconst (v := 1) hx hb dL_law_819 (by decide) ?_
  refine lv_iadd hx hb dL_law_820 ?_
  refine lv_topi (fun y_1 hy_1 => ?_)
  obtain rfl : y_1 = nI (i + 1) := hy_1.trans (nI_add i 1)
  refine va_sld hx hb hX hbl hbA hS (vp_in_nI (by omega) (by omega)) dL_law_821 ?_
  refine lv_aload_n hx hb dL_law_822 rfl (lv_at hl 3 rfl) ?_
  refine lv_iload_n hx hb dL_law_823 rfl (lv_at hl 0 rfl) ?_
  refine lv_iconst (v := 2) hx hb dL_law_824 (by decide) ?_
  refine lv_iadd hx hb dL_law_825 ?_
  refine lv_topi (fun y_2 hy_2 => ?_)
  obtain rfl : y_2 = nI (i + 2) := hy_2.trans (nI_add i 2)
  refine va_sld hx hb hX hbl hbA hS (vp_in_nI (by omega) (by omega)) dL_law_826 ?_
  refine x_callVi (q := (RX11, TX11, 14)) (ci := 11) (q0 := 0) (wr := IM cy m0 v) (rest := []) ⟨hx, hb, hml, hown, hg, hl.1⟩ k_L_107 (tx_clears l D cy x0 u hu (xs (nI (i + 1) : Int32).toNatClampNeg) (xs (nI (i + 2) : Int32).toNatClampNeg)) E0_blind hK hP hD hS hA [0, 1, 2, 3, 4, 5, 6, 7, 8, 9, 10, 11, 12, 13, 14, 15, 16, 17, 18, 19, 20, 21, 22, 23, 24, 25, 26, 27, 28, 29, 30, 31, 32, 33, 34, 35, 36, 37, 38, 39, 40, 41, 42, 43, 44, 45, 46, 47, 48, 49, 50, 51, 52, 53, 54, 55, 56, 57, 58, 59, 60, 61, 62, 63, 64, 65, 66, 67, 68, 69, 70, 71, 72, 73, 74, 75, 76, 77, 78, 79, 80, 81, 82, 83, 84, 85, 86, 87, 88, 89, 90, 91, 92, 93] [94, 95, 96, 97, 98, 99, 100, 101, 102, 103, 104, 105, 106, 107, 108, 109, 110, 111, 112, 113, 114, 115, 116, 117, 118, 119, 120, 121, 122, 123, 124, 125, 126, 127, 128, 129, 130, 131, 132, 133, 134, 135, 136, 137, 138, 139, 140, 141] (cutX cy x0 m0 u v) rfl rfl (fun _ _ _ => trivial) dL_law_827 rfl rfl (Nat.le_of_ble_eq_true rfl) ⟨Nat.le_of_ble_eq_true rfl, Nat.le_of_ble_eq_true rfl⟩ ⟨Nat.le_of_ble_eq_true rfl, Nat.le_of_ble_eq_true rfl⟩ (fun r1 u2 H locs hw1 hP9 hD9 hS9 => ?_)
  clear hP hD hS
  have hP := hP9
  have hD := hD9
  have hS := hS9
  clear hP9 hD9 hS9
  refine W.widen (k := 142) (n := 14416) (Nat.le_of_ble_eq_true rfl) (Nat.le_of_ble_eq_true rfl) ?_
  refine lv_pop hx hb dL_law_830 rfl ?_
  refine lv_aload_n hx hb dL_law_831 rfl (lv_at hl 1 rfl) ?_
  refine lv_aload_n hx hb dL_law_832 rfl (lv_at hl 3 rfl) ?_
  refine lv_iload_n hx hb dL_law_833 rfl (lv_at hl 0 rfl) ?_
  refine lv_iconst (v := 1) hx hb dL_law_834 (by decide) ?_
  refine lv_iadd hx hb dL_law_835 ?_
  refine lv_topi (fun y_3 hy_3 => ?_)
  obtain rfl : y_3 = nI (i + 1) := hy_3.trans (nI_add i 1)
  refine va_sld hx hb hX hbl hbA hS (vp_in_nI (by omega) (by omega)) dL_law_836 ?_
  refine lv_aload_n hx hb dL_law_837 rfl (lv_at hl 3 rfl) ?_
  refine lv_iload_n hx hb dL_law_838 rfl (lv_at hl 0 rfl) ?_
  refine lv_iconst (v := 2) hx hb dL_law_839 (by decide) ?_
  refine lv_iadd hx hb dL_law_840 ?_
  refine lv_topi (fun y_4 hy_4 => ?_)
  obtain rfl : y_4 = nI (i + 2) := hy_4.trans (nI_add i 2)
  refine va_sld hx hb hX hbl hbA hS (vp_in_nI (by omega) (by omega)) dL_law_841 ?_
  refine x_callVi (q := (RX12, TX12, 89)) (ci := 12) (q0 := 0) (wr := IX cy x0 u2) (rest := []) ⟨hx, hb, hml, hown, hg, hl.1⟩ k_L_110 (tm_clears l D cy m0 v hv (xs (nI (i + 1) : Int32).toNatClampNeg) (xs (nI (i + 2) : Int32).toNatClampNeg)) E0_blind hK hP hD hS hA [0, 1, 2, 3, 4, 5, 6, 7, 8, 9, 10, 11, 12, 13, 14, 15, 16, 17, 18, 19, 20, 21, 22, 23, 24, 25, 26, 27, 28, 29, 30, 31, 32, 33, 34, 35, 36, 37, 38, 39, 40, 41, 42, 43, 44, 45, 46, 47] [48, 49, 50, 51, 52, 53, 54, 55, 56, 57, 58, 59, 60, 61, 62, 63, 64, 65, 66, 67, 68, 69, 70, 71, 72, 73, 74, 75, 76, 77, 78, 79, 80, 81, 82, 83, 84, 85, 86, 87, 88, 89, 90, 91, 92, 93, 94, 95, 96, 97, 98, 99, 100, 101, 102, 103, 104, 105, 106, 107, 108, 109, 110, 111, 112, 113, 114, 115, 116, 117, 118, 119, 120, 121, 122, 123, 124, 125, 126, 127, 128, 129, 130, 131, 132, 133, 134, 135, 136, 137, 138, 139, 140, 141] (cutM cy x0 m0 u2 v) rfl rfl (fun _ _ _ => trivial) dL_law_842 rfl rfl (Nat.le_of_ble_eq_true rfl) ⟨Nat.le_of_ble_eq_true rfl, Nat.le_of_ble_eq_true rfl⟩ ⟨Nat.le_of_ble_eq_true rfl, Nat.le_of_ble_eq_true rfl⟩ (fun r2 v2 H locs hw2 hP9 hD9 hS9 => ?_)
  clear hP hD hS
  have hP := hP9
  have hD := hD9
  have hS := hS9
  clear hP9 hD9 hS9
  refine W.widen (k := 142) (n := 14416) (Nat.le_of_ble_eq_true rfl) (Nat.le_of_ble_eq_true rfl) ?_
  refine lv_pop hx hb dL_law_845 rfl ?_
  refine lv_goto (tgt := 1244) hx hb dL_law_846 (by decide) ?_
  exact hk u2 v2 H locs ls hw1.1 hw2.1 ⟨(sm_d hT.1 hw1.2.1 hw2.2.1), RH_eq hT.2.1 hw1.2.2.1 hw2.2.2.1, RS_eq hT.2.2.1 hw1.2.1.2.1 hw1.2.2.2.1 hw2.2.2.2.1, RMt_of hw1.2.2.2.2.2 hw2.2.2.2.2.2 hT.2.2.2⟩ hP hD hS hl
theorem gdL_law_849 : decode cL_law 849 = .ok (.aload_n 1, 1) ∧ decode cL_law 850 = .ok (.aload_n 0, 1) ∧ decode cL_law 851 = .ok (.iload_n 3, 1) ∧ decode cL_law 852 = .ok (.iconst 1, 1) ∧ decode cL_law 853 = .ok (.iadd, 1) ∧ decode cL_law 854 = .ok (.iaload, 1) ∧ decode cL_law 855 = .ok (.invokevirtual 111, 3) := by decide +kernel
theorem dL_law_849 : decode cL_law 849 = .ok (.aload_n 1, 1) := gdL_law_849.1
theorem dL_law_850 : decode cL_law 850 = .ok (.aload_n 0, 1) := gdL_law_849.2.1
theorem dL_law_851 : decode cL_law 851 = .ok (.iload_n 3, 1) := gdL_law_849.2.2.1
theorem dL_law_852 : decode cL_law 852 = .ok (.iconst 1, 1) := gdL_law_849.2.2.2.1
theorem dL_law_853 : decode cL_law 853 = .ok (.iadd, 1) := gdL_law_849.2.2.2.2.1
theorem dL_law_854 : decode cL_law 854 = .ok (.iaload, 1) := gdL_law_849.2.2.2.2.2.1
theorem dL_law_855 : decode cL_law 855 = .ok (.invokevirtual 111, 3) := gdL_law_849.2.2.2.2.2.2
theorem k_L_111 : xV RL RX11 111 yX11_rhyme cX11_rhyme 3 (some .int) 1 := ⟨⟨m_1231, m_1232, m_1233, m_130, m_1234⟩, rfl, by decide, by decide, by decide +kernel⟩
theorem gdL_law_858 : decode cL_law 858 = .ok (.pop, 1) ∧ decode cL_law 859 = .ok (.aload_n 2, 1) ∧ decode cL_law 860 = .ok (.aload_n 0, 1) ∧ decode cL_law 861 = .ok (.iload_n 3, 1) ∧ decode cL_law 862 = .ok (.iconst 1, 1) ∧ decode cL_law 863 = .ok (.iadd, 1) ∧ decode cL_law 864 = .ok (.iaload, 1) ∧ decode cL_law 865 = .ok (.invokevirtual 114, 3) := by decide +kernel
theorem dL_law_858 : decode cL_law 858 = .ok (.pop, 1) := gdL_law_858.1
theorem dL_law_859 : decode cL_law 859 = .ok (.aload_n 2, 1) := gdL_law_858.2.1
theorem dL_law_860 : decode cL_law 860 = .ok (.aload_n 0, 1) := gdL_law_858.2.2.1
theorem dL_law_861 : decode cL_law 861 = .ok (.iload_n 3, 1) := gdL_law_858.2.2.2.1
theorem dL_law_862 : decode cL_law 862 = .ok (.iconst 1, 1) := gdL_law_858.2.2.2.2.1
theorem dL_law_863 : decode cL_law 863 = .ok (.iadd, 1) := gdL_law_858.2.2.2.2.2.1
theorem dL_law_864 : decode cL_law 864 = .ok (.iaload, 1) := gdL_law_858.2.2.2.2.2.2.1
theorem dL_law_865 : decode cL_law 865 = .ok (.invokevirtual 114, 3) := gdL_law_858.2.2.2.2.2.2.2
theorem k_L_114 : xV RL RX12 114 yX12_rhyme cX12_rhyme 4 (some .int) 1 := ⟨⟨m_2064, m_2065, m_2066, m_146, m_2067⟩, rfl, by decide, by decide, by decide +kernel⟩
theorem dL_law_868 : decode cL_law 868 = .ok (.pop, 1) := by decide +kernel
theorem dL_law_869 : decode cL_law 869 = .ok (.goto 375, 3) := by decide +kernel
set_option maxHeartbeats 4000000 in
set_option maxRecDepth 100000 in
theorem lc_rhyme {p : Program} {e : Env} {s : State} {m : MethodId} {below : List Frame} {meth : Method} {c : Code} (l : Launch) {D : va_G} {cy : Nat → ClassId} {A : Nat → Prop} {b L : Nat} {xs : Nat → Int32} (hL : L ≤ 3072) (C : lwC p s m meth c b L xs D cy A) {adK adV : Nat → Nat} (hE : EV adK adV A s) (x0 m0 : Nat) {i : Nat} (hi : i + 6 ≤ L) (hk : lwW p l e s m below meth c b D cy A x0 m0 i 1244) : lwW p l e s m below meth c b D cy A x0 m0 i 849 := by
  obtain ⟨hx, hb, hr, hml, hown, hg, hlocks, hX, hbl, hK, hA, hAr, hbA⟩ := C
  intro u v H locs ls hu hv hT hP hD hS hl
  refine lv_aload_n hx hb dL_law_849 rfl (lv_at hl 2 rfl) ?_
  refine lv_aload_n hx hb dL_law_850 rfl (lv_at hl 3 rfl) ?_
  refine lv_iload_n hx hb dL_law_851 rfl (lv_at hl 0 rfl) ?_
  refine lv_iconst (v := 1) hx hb dL_law_852 (by decide) ?_
  refine lv_iadd hx hb dL_law_853 ?_
  refine lv_topi (fun y_1 hy_1 => ?_)
  obtain rfl : y_1 = nI (i + 1) := hy_1.trans (nI_add i 1)
  refine va_sld hx hb hX hbl hbA hS (vp_in_nI (by omega) (by omega)) dL_law_854 ?_
  refine x_callVi (q := (RX11, TX11, 14)) (ci := 11) (q0 := 0) (wr := IM cy m0 v) (rest := []) ⟨hx, hb, hml, hown, hg, hl.1⟩ k_L_111 (tx_rhyme l D cy x0 u hu (xs (nI (i + 1) : Int32).toNatClampNeg)) E0_blind hK hP hD hS hA [0, 1, 2, 3, 4, 5, 6, 7, 8, 9, 10, 11, 12, 13, 14, 15, 16, 17, 18, 19, 20, 21, 22, 23, 24, 25, 26, 27, 28, 29, 30, 31, 32, 33, 34, 35, 36, 37, 38, 39, 40, 41, 42, 43, 44, 45, 46, 47, 48, 49, 50, 51, 52, 53, 54, 55, 56, 57, 58, 59, 60, 61, 62, 63, 64, 65, 66, 67, 68, 69, 70, 71, 72, 73, 74, 75, 76, 77, 78, 79, 80, 81, 82, 83, 84, 85, 86, 87, 88, 89, 90, 91, 92, 93] [94, 95, 96, 97, 98, 99, 100, 101, 102, 103, 104, 105, 106, 107, 108, 109, 110, 111, 112, 113, 114, 115, 116, 117, 118, 119, 120, 121, 122, 123, 124, 125, 126, 127, 128, 129, 130, 131, 132, 133, 134, 135, 136, 137, 138, 139, 140, 141] (cutX cy x0 m0 u v) rfl rfl (fun _ _ _ => trivial) dL_law_855 rfl rfl (Nat.le_of_ble_eq_true rfl) ⟨Nat.le_of_ble_eq_true rfl, Nat.le_of_ble_eq_true rfl⟩ ⟨Nat.le_of_ble_eq_true rfl, Nat.le_of_ble_eq_true rfl⟩ (fun r1 u2 H locs hw1 hP9 hD9 hS9 => ?_)
  clear hP hD hS
  have hP := hP9
  have hD := hD9
  have hS := hS9
  clear hP9 hD9 hS9
  refine W.widen (k := 142) (n := 14416) (Nat.le_of_ble_eq_true rfl) (Nat.le_of_ble_eq_true rfl) ?_
  refine lv_pop hx hb dL_law_858 rfl ?_
  refine lv_aload_n hx hb dL_law_859 rfl (lv_at hl 1 rfl) ?_
  refine lv_aload_n hx hb dL_law_860 rfl (lv_at hl 3 rfl) ?_
  refine lv_iload_n hx hb dL_law_861 rfl (lv_at hl 0 rfl) ?_
  refine lv_iconst (v := 1) hx hb dL_law_862 (by decide) ?_
  refine lv_iadd hx hb dL_law_863 ?_
  refine lv_topi (fun y_2 hy_2 => ?_)
  obtain rfl : y_2 = nI (i + 1) := hy_2.trans (nI_add i 1)
  refine va_sld hx hb hX hbl hbA hS (vp_in_nI (by omega) (by omega)) dL_law_864 ?_
  refine x_callVi (q := (RX12, TX12, 89)) (ci := 12) (q0 := 0) (wr := IX cy x0 u2) (rest := []) ⟨hx, hb, hml, hown, hg, hl.1⟩ k_L_114 (tm_rhyme l D cy m0 v hv (xs (nI (i + 1) : Int32).toNatClampNeg)) E0_blind hK hP hD hS hA [0, 1, 2, 3, 4, 5, 6, 7, 8, 9, 10, 11, 12, 13, 14, 15, 16, 17, 18, 19, 20, 21, 22, 23, 24, 25, 26, 27, 28, 29, 30, 31, 32, 33, 34, 35, 36, 37, 38, 39, 40, 41, 42, 43, 44, 45, 46, 47] [48, 49, 50, 51, 52, 53, 54, 55, 56, 57, 58, 59, 60, 61, 62, 63, 64, 65, 66, 67, 68, 69, 70, 71, 72, 73, 74, 75, 76, 77, 78, 79, 80, 81, 82, 83, 84, 85, 86, 87, 88, 89, 90, 91, 92, 93, 94, 95, 96, 97, 98, 99, 100, 101, 102, 103, 104, 105, 106, 107, 108, 109, 110, 111, 112, 113, 114, 115, 116, 117, 118, 119, 120, 121, 122, 123, 124, 125, 126, 127, 128, 129, 130, 131, 132, 133, 134, 135, 136, 137, 138, 139, 140, 141] (cutM cy x0 m0 u2 v) rfl rfl (fun _ _ _ => trivial) dL_law_865 rfl rfl (Nat.le_of_ble_eq_true rfl) ⟨Nat.le_of_ble_eq_true rfl, Nat.le_of_ble_eq_true rfl⟩ ⟨Nat.le_of_ble_eq_true rfl, Nat.le_of_ble_eq_true rfl⟩ (fun r2 v2 H locs hw2 hP9 hD9 hS9 => ?_)
  clear hP hD hS
  have hP := hP9
  have hD := hD9
  have hS := hS9
  clear hP9 hD9 hS9
  refine W.widen (k := 142) (n := 14416) (Nat.le_of_ble_eq_true rfl) (Nat.le_of_ble_eq_true rfl) ?_
  refine lv_pop hx hb dL_law_868 rfl ?_
  refine lv_goto (tgt := 1244) hx hb dL_law_869 (by decide) ?_
  exact hk u2 v2 H locs ls hw1.1 hw2.1 ⟨(sm_d hT.1 hw1.2.1 hw2.2.1), RH_eq hT.2.1 hw1.2.2.1 hw2.2.2.1, RS_eq hT.2.2.1 hw1.2.1.2.1 hw1.2.2.2.1 hw2.2.2.2.1, RMt_of hw1.2.2.2.2.2 hw2.2.2.2.2.2 hT.2.2.2⟩ hP hD hS hl
theorem gdL_law_872 : decode cL_law 872 = .ok (.aload_n 1, 1) ∧ decode cL_law 873 = .ok (.aload_n 0, 1) ∧ decode cL_law 874 = .ok (.iload_n 3, 1) ∧ decode cL_law 875 = .ok (.iconst 1, 1) ∧ decode cL_law 876 = .ok (.iadd, 1) ∧ decode cL_law 877 = .ok (.iaload, 1) ∧ decode cL_law 878 = .ok (.aload_n 0, 1) ∧ decode cL_law 879 = .ok (.iload_n 3, 1) ∧ decode cL_law 880 = .ok (.iconst 2, 1) ∧ decode cL_law 881 = .ok (.iadd, 1) ∧ decode cL_law 882 = .ok (.iaload, 1) ∧ decode cL_law 883 = .ok (.invokevirtual 115, 3) := by decide +kernel
theorem dL_law_872 : decode cL_law 872 = .ok (.aload_n 1, 1) := gdL_law_872.1
theorem dL_law_873 : decode cL_law 873 = .ok (.aload_n 0, 1) := gdL_law_872.2.1
theorem dL_law_874 : decode cL_law 874 = .ok (.iload_n 3, 1) := gdL_law_872.2.2.1
theorem dL_law_875 : decode cL_law 875 = .ok (.iconst 1, 1) := gdL_law_872.2.2.2.1
theorem dL_law_876 : decode cL_law 876 = .ok (.iadd, 1) := gdL_law_872.2.2.2.2.1
theorem dL_law_877 : decode cL_law 877 = .ok (.iaload, 1) := gdL_law_872.2.2.2.2.2.1
theorem dL_law_878 : decode cL_law 878 = .ok (.aload_n 0, 1) := gdL_law_872.2.2.2.2.2.2.1
theorem dL_law_879 : decode cL_law 879 = .ok (.iload_n 3, 1) := gdL_law_872.2.2.2.2.2.2.2.1
theorem dL_law_880 : decode cL_law 880 = .ok (.iconst 2, 1) := gdL_law_872.2.2.2.2.2.2.2.2.1
theorem dL_law_881 : decode cL_law 881 = .ok (.iadd, 1) := gdL_law_872.2.2.2.2.2.2.2.2.2.1
theorem dL_law_882 : decode cL_law 882 = .ok (.iaload, 1) := gdL_law_872.2.2.2.2.2.2.2.2.2.2.1
theorem dL_law_883 : decode cL_law 883 = .ok (.invokevirtual 115, 3) := gdL_law_872.2.2.2.2.2.2.2.2.2.2.2
theorem k_L_115 : xV RL RX11 115 yX11_joined cX11_joined 3 (some .int) 2 := ⟨⟨m_1280, m_1281, m_1282, m_130, m_1283⟩, rfl, by decide, by decide, by decide +kernel⟩
theorem gdL_law_886 : decode cL_law 886 = .ok (.pop, 1) ∧ decode cL_law 887 = .ok (.aload_n 2, 1) ∧ decode cL_law 888 = .ok (.aload_n 0, 1) ∧ decode cL_law 889 = .ok (.iload_n 3, 1) ∧ decode cL_law 890 = .ok (.iconst 1, 1) ∧ decode cL_law 891 = .ok (.iadd, 1) ∧ decode cL_law 892 = .ok (.iaload, 1) ∧ decode cL_law 893 = .ok (.aload_n 0, 1) ∧ decode cL_law 894 = .ok (.iload_n 3, 1) ∧ decode cL_law 895 = .ok (.iconst 2, 1) ∧ decode cL_law 896 = .ok (.iadd, 1) ∧ decode cL_law 897 = .ok (.iaload, 1) := by decide +kernel
theorem dL_law_886 : decode cL_law 886 = .ok (.pop, 1) := gdL_law_886.1
theorem dL_law_887 : decode cL_law 887 = .ok (.aload_n 2, 1) := gdL_law_886.2.1
theorem dL_law_888 : decode cL_law 888 = .ok (.aload_n 0, 1) := gdL_law_886.2.2.1
theorem dL_law_889 : decode cL_law 889 = .ok (.iload_n 3, 1) := gdL_law_886.2.2.2.1
theorem dL_law_890 : decode cL_law 890 = .ok (.iconst 1, 1) := gdL_law_886.2.2.2.2.1
theorem dL_law_891 : decode cL_law 891 = .ok (.iadd, 1) := gdL_law_886.2.2.2.2.2.1
theorem dL_law_892 : decode cL_law 892 = .ok (.iaload, 1) := gdL_law_886.2.2.2.2.2.2.1
theorem dL_law_893 : decode cL_law 893 = .ok (.aload_n 0, 1) := gdL_law_886.2.2.2.2.2.2.2.1
theorem dL_law_894 : decode cL_law 894 = .ok (.iload_n 3, 1) := gdL_law_886.2.2.2.2.2.2.2.2.1
theorem dL_law_895 : decode cL_law 895 = .ok (.iconst 2, 1) := gdL_law_886.2.2.2.2.2.2.2.2.2.1
theorem dL_law_896 : decode cL_law 896 = .ok (.iadd, 1) := gdL_law_886.2.2.2.2.2.2.2.2.2.2.1
theorem dL_law_897 : decode cL_law 897 = .ok (.iaload, 1) := gdL_law_886.2.2.2.2.2.2.2.2.2.2.2
theorem dL_law_898 : decode cL_law 898 = .ok (.invokevirtual 118, 3) := by decide +kernel
theorem k_L_118 : xV RL RX12 118 yX12_joined cX12_joined 5 (some .int) 2 := ⟨⟨m_2080, m_2081, m_2082, m_146, m_2083⟩, rfl, by decide, by decide, by decide +kernel⟩
theorem dL_law_901 : decode cL_law 901 = .ok (.pop, 1) := by decide +kernel
theorem dL_law_902 : decode cL_law 902 = .ok (.goto 342, 3) := by decide +kernel
set_option maxHeartbeats 4000000 in
set_option maxRecDepth 100000 in
theorem lc_joined {p : Program} {e : Env} {s : State} {m : MethodId} {below : List Frame} {meth : Method} {c : Code} (l : Launch) {D : va_G} {cy : Nat → ClassId} {A : Nat → Prop} {b L : Nat} {xs : Nat → Int32} (hL : L ≤ 3072) (C : lwC p s m meth c b L xs D cy A) {adK adV : Nat → Nat} (hE : EV adK adV A s) (x0 m0 : Nat) {i : Nat} (hi : i + 6 ≤ L) (hk : lwW p l e s m below meth c b D cy A x0 m0 i 1244) : lwW p l e s m below meth c b D cy A x0 m0 i 872 := by
  obtain ⟨hx, hb, hr, hml, hown, hg, hlocks, hX, hbl, hK, hA, hAr, hbA⟩ := C
  intro u v H locs ls hu hv hT hP hD hS hl
  refine lv_aload_n hx hb dL_law_872 rfl (lv_at hl 2 rfl) ?_
  refine lv_aload_n hx hb dL_law_873 rfl (lv_at hl 3 rfl) ?_
  refine lv_iload_n hx hb dL_law_874 rfl (lv_at hl 0 rfl) ?_
  refine lv_iconst (v := 1) hx hb dL_law_875 (by decide) ?_
  refine lv_iadd hx hb dL_law_876 ?_
  refine lv_topi (fun y_1 hy_1 => ?_)
  obtain rfl : y_1 = nI (i + 1) := hy_1.trans (nI_add i 1)
  refine va_sld hx hb hX hbl hbA hS (vp_in_nI (by omega) (by omega)) dL_law_877 ?_
  refine lv_aload_n hx hb dL_law_878 rfl (lv_at hl 3 rfl) ?_
  refine lv_iload_n hx hb dL_law_879 rfl (lv_at hl 0 rfl) ?_
  refine lv_iconst (v := 2) hx hb dL_law_880 (by decide) ?_
  refine lv_iadd hx hb dL_law_881 ?_
  refine lv_topi (fun y_2 hy_2 => ?_)
  obtain rfl : y_2 = nI (i + 2) := hy_2.trans (nI_add i 2)
  refine va_sld hx hb hX hbl hbA hS (vp_in_nI (by omega) (by omega)) dL_law_882 ?_
  refine x_callVi (q := (RX11, TX11, 14)) (ci := 11) (q0 := 0) (wr := IM cy m0 v) (rest := []) ⟨hx, hb, hml, hown, hg, hl.1⟩ k_L_115 (tx_joined l D cy x0 u hu (xs (nI (i + 1) : Int32).toNatClampNeg) (xs (nI (i + 2) : Int32).toNatClampNeg)) E0_blind hK hP hD hS hA [0, 1, 2, 3, 4, 5, 6, 7, 8, 9, 10, 11, 12, 13, 14, 15, 16, 17, 18, 19, 20, 21, 22, 23, 24, 25, 26, 27, 28, 29, 30, 31, 32, 33, 34, 35, 36, 37, 38, 39, 40, 41, 42, 43, 44, 45, 46, 47, 48, 49, 50, 51, 52, 53, 54, 55, 56, 57, 58, 59, 60, 61, 62, 63, 64, 65, 66, 67, 68, 69, 70, 71, 72, 73, 74, 75, 76, 77, 78, 79, 80, 81, 82, 83, 84, 85, 86, 87, 88, 89, 90, 91, 92, 93] [94, 95, 96, 97, 98, 99, 100, 101, 102, 103, 104, 105, 106, 107, 108, 109, 110, 111, 112, 113, 114, 115, 116, 117, 118, 119, 120, 121, 122, 123, 124, 125, 126, 127, 128, 129, 130, 131, 132, 133, 134, 135, 136, 137, 138, 139, 140, 141] (cutX cy x0 m0 u v) rfl rfl (fun _ _ _ => trivial) dL_law_883 rfl rfl (Nat.le_of_ble_eq_true rfl) ⟨Nat.le_of_ble_eq_true rfl, Nat.le_of_ble_eq_true rfl⟩ ⟨Nat.le_of_ble_eq_true rfl, Nat.le_of_ble_eq_true rfl⟩ (fun r1 u2 H locs hw1 hP9 hD9 hS9 => ?_)
  clear hP hD hS
  have hP := hP9
  have hD := hD9
  have hS := hS9
  clear hP9 hD9 hS9
  refine W.widen (k := 142) (n := 14416) (Nat.le_of_ble_eq_true rfl) (Nat.le_of_ble_eq_true rfl) ?_
  refine lv_pop hx hb dL_law_886 rfl ?_
  refine lv_aload_n hx hb dL_law_887 rfl (lv_at hl 1 rfl) ?_
  refine lv_aload_n hx hb dL_law_888 rfl (lv_at hl 3 rfl) ?_
  refine lv_iload_n hx hb dL_law_889 rfl (lv_at hl 0 rfl) ?_
  refine lv_iconst (v := 1) hx hb dL_law_890 (by decide) ?_
  refine lv_iadd hx hb dL_law_891 ?_
  refine lv_topi (fun y_3 hy_3 => ?_)
  obtain rfl : y_3 = nI (i + 1) := hy_3.trans (nI_add i 1)
  refine va_sld hx hb hX hbl hbA hS (vp_in_nI (by omega) (by omega)) dL_law_892 ?_
  refine lv_aload_n hx hb dL_law_893 rfl (lv_at hl 3 rfl) ?_
  refine lv_iload_n hx hb dL_law_894 rfl (lv_at hl 0 rfl) ?_
  refine lv_iconst (v := 2) hx hb dL_law_895 (by decide) ?_
  refine lv_iadd hx hb dL_law_896 ?_
  refine lv_topi (fun y_4 hy_4 => ?_)
  obtain rfl : y_4 = nI (i + 2) := hy_4.trans (nI_add i 2)
  refine va_sld hx hb hX hbl hbA hS (vp_in_nI (by omega) (by omega)) dL_law_897 ?_
  refine x_callVi (q := (RX12, TX12, 89)) (ci := 12) (q0 := 0) (wr := IX cy x0 u2) (rest := []) ⟨hx, hb, hml, hown, hg, hl.1⟩ k_L_118 (tm_joined l D cy m0 v hv (xs (nI (i + 1) : Int32).toNatClampNeg) (xs (nI (i + 2) : Int32).toNatClampNeg)) E0_blind hK hP hD hS hA [0, 1, 2, 3, 4, 5, 6, 7, 8, 9, 10, 11, 12, 13, 14, 15, 16, 17, 18, 19, 20, 21, 22, 23, 24, 25, 26, 27, 28, 29, 30, 31, 32, 33, 34, 35, 36, 37, 38, 39, 40, 41, 42, 43, 44, 45, 46, 47] [48, 49, 50, 51, 52, 53, 54, 55, 56, 57, 58, 59, 60, 61, 62, 63, 64, 65, 66, 67, 68, 69, 70, 71, 72, 73, 74, 75, 76, 77, 78, 79, 80, 81, 82, 83, 84, 85, 86, 87, 88, 89, 90, 91, 92, 93, 94, 95, 96, 97, 98, 99, 100, 101, 102, 103, 104, 105, 106, 107, 108, 109, 110, 111, 112, 113, 114, 115, 116, 117, 118, 119, 120, 121, 122, 123, 124, 125, 126, 127, 128, 129, 130, 131, 132, 133, 134, 135, 136, 137, 138, 139, 140, 141] (cutM cy x0 m0 u2 v) rfl rfl (fun _ _ _ => trivial) dL_law_898 rfl rfl (Nat.le_of_ble_eq_true rfl) ⟨Nat.le_of_ble_eq_true rfl, Nat.le_of_ble_eq_true rfl⟩ ⟨Nat.le_of_ble_eq_true rfl, Nat.le_of_ble_eq_true rfl⟩ (fun r2 v2 H locs hw2 hP9 hD9 hS9 => ?_)
  clear hP hD hS
  have hP := hP9
  have hD := hD9
  have hS := hS9
  clear hP9 hD9 hS9
  refine W.widen (k := 142) (n := 14416) (Nat.le_of_ble_eq_true rfl) (Nat.le_of_ble_eq_true rfl) ?_
  refine lv_pop hx hb dL_law_901 rfl ?_
  refine lv_goto (tgt := 1244) hx hb dL_law_902 (by decide) ?_
  exact hk u2 v2 H locs ls hw1.1 hw2.1 ⟨(sm_d hT.1 hw1.2.1 hw2.2.1), RH_eq hT.2.1 hw1.2.2.1 hw2.2.2.1, RS_eq hT.2.2.1 hw1.2.1.2.1 hw1.2.2.2.1 hw2.2.2.2.1, RMt_of hw1.2.2.2.2.2 hw2.2.2.2.2.2 hT.2.2.2⟩ hP hD hS hl
theorem gdL_law_905 : decode cL_law 905 = .ok (.aload_n 1, 1) ∧ decode cL_law 906 = .ok (.aload_n 0, 1) ∧ decode cL_law 907 = .ok (.iload_n 3, 1) ∧ decode cL_law 908 = .ok (.iconst 1, 1) ∧ decode cL_law 909 = .ok (.iadd, 1) ∧ decode cL_law 910 = .ok (.iaload, 1) ∧ decode cL_law 911 = .ok (.invokevirtual 119, 3) := by decide +kernel
theorem dL_law_905 : decode cL_law 905 = .ok (.aload_n 1, 1) := gdL_law_905.1
theorem dL_law_906 : decode cL_law 906 = .ok (.aload_n 0, 1) := gdL_law_905.2.1
theorem dL_law_907 : decode cL_law 907 = .ok (.iload_n 3, 1) := gdL_law_905.2.2.1
theorem dL_law_908 : decode cL_law 908 = .ok (.iconst 1, 1) := gdL_law_905.2.2.2.1
theorem dL_law_909 : decode cL_law 909 = .ok (.iadd, 1) := gdL_law_905.2.2.2.2.1
theorem dL_law_910 : decode cL_law 910 = .ok (.iaload, 1) := gdL_law_905.2.2.2.2.2.1
theorem dL_law_911 : decode cL_law 911 = .ok (.invokevirtual 119, 3) := gdL_law_905.2.2.2.2.2.2
theorem k_L_119 : xV RL RX11 119 yX11_luck cX11_luck 4 (some .int) 1 := ⟨⟨m_1284, m_1285, m_1286, m_130, m_1287⟩, rfl, by decide, by decide, by decide +kernel⟩
theorem gdL_law_914 : decode cL_law 914 = .ok (.pop, 1) ∧ decode cL_law 915 = .ok (.aload_n 2, 1) ∧ decode cL_law 916 = .ok (.aload_n 0, 1) ∧ decode cL_law 917 = .ok (.iload_n 3, 1) ∧ decode cL_law 918 = .ok (.iconst 1, 1) ∧ decode cL_law 919 = .ok (.iadd, 1) ∧ decode cL_law 920 = .ok (.iaload, 1) ∧ decode cL_law 921 = .ok (.invokevirtual 122, 3) := by decide +kernel
theorem dL_law_914 : decode cL_law 914 = .ok (.pop, 1) := gdL_law_914.1
theorem dL_law_915 : decode cL_law 915 = .ok (.aload_n 2, 1) := gdL_law_914.2.1
theorem dL_law_916 : decode cL_law 916 = .ok (.aload_n 0, 1) := gdL_law_914.2.2.1
theorem dL_law_917 : decode cL_law 917 = .ok (.iload_n 3, 1) := gdL_law_914.2.2.2.1
theorem dL_law_918 : decode cL_law 918 = .ok (.iconst 1, 1) := gdL_law_914.2.2.2.2.1
theorem dL_law_919 : decode cL_law 919 = .ok (.iadd, 1) := gdL_law_914.2.2.2.2.2.1
theorem dL_law_920 : decode cL_law 920 = .ok (.iaload, 1) := gdL_law_914.2.2.2.2.2.2.1
theorem dL_law_921 : decode cL_law 921 = .ok (.invokevirtual 122, 3) := gdL_law_914.2.2.2.2.2.2.2
theorem k_L_122 : xV RL RX12 122 yX12_luck cX12_luck 4 (some .int) 1 := ⟨⟨m_2088, m_2089, m_2090, m_146, m_2091⟩, rfl, by decide, by decide, by decide +kernel⟩
theorem dL_law_924 : decode cL_law 924 = .ok (.pop, 1) := by decide +kernel
theorem dL_law_925 : decode cL_law 925 = .ok (.goto 319, 3) := by decide +kernel
set_option maxHeartbeats 4000000 in
set_option maxRecDepth 100000 in
theorem lc_luck {p : Program} {e : Env} {s : State} {m : MethodId} {below : List Frame} {meth : Method} {c : Code} (l : Launch) {D : va_G} {cy : Nat → ClassId} {A : Nat → Prop} {b L : Nat} {xs : Nat → Int32} (hL : L ≤ 3072) (C : lwC p s m meth c b L xs D cy A) {adK adV : Nat → Nat} (hE : EV adK adV A s) (x0 m0 : Nat) {i : Nat} (hi : i + 6 ≤ L) (hk : lwW p l e s m below meth c b D cy A x0 m0 i 1244) : lwW p l e s m below meth c b D cy A x0 m0 i 905 := by
  obtain ⟨hx, hb, hr, hml, hown, hg, hlocks, hX, hbl, hK, hA, hAr, hbA⟩ := C
  intro u v H locs ls hu hv hT hP hD hS hl
  refine lv_aload_n hx hb dL_law_905 rfl (lv_at hl 2 rfl) ?_
  refine lv_aload_n hx hb dL_law_906 rfl (lv_at hl 3 rfl) ?_
  refine lv_iload_n hx hb dL_law_907 rfl (lv_at hl 0 rfl) ?_
  refine lv_iconst (v := 1) hx hb dL_law_908 (by decide) ?_
  refine lv_iadd hx hb dL_law_909 ?_
  refine lv_topi (fun y_1 hy_1 => ?_)
  obtain rfl : y_1 = nI (i + 1) := hy_1.trans (nI_add i 1)
  refine va_sld hx hb hX hbl hbA hS (vp_in_nI (by omega) (by omega)) dL_law_910 ?_
  refine x_callVi (q := (RX11, TX11, 14)) (ci := 11) (q0 := 0) (wr := IM cy m0 v) (rest := []) ⟨hx, hb, hml, hown, hg, hl.1⟩ k_L_119 (tx_luck l D cy x0 u hu (xs (nI (i + 1) : Int32).toNatClampNeg)) E0_blind hK hP hD hS hA [0, 1, 2, 3, 4, 5, 6, 7, 8, 9, 10, 11, 12, 13, 14, 15, 16, 17, 18, 19, 20, 21, 22, 23, 24, 25, 26, 27, 28, 29, 30, 31, 32, 33, 34, 35, 36, 37, 38, 39, 40, 41, 42, 43, 44, 45, 46, 47, 48, 49, 50, 51, 52, 53, 54, 55, 56, 57, 58, 59, 60, 61, 62, 63, 64, 65, 66, 67, 68, 69, 70, 71, 72, 73, 74, 75, 76, 77, 78, 79, 80, 81, 82, 83, 84, 85, 86, 87, 88, 89, 90, 91, 92, 93] [94, 95, 96, 97, 98, 99, 100, 101, 102, 103, 104, 105, 106, 107, 108, 109, 110, 111, 112, 113, 114, 115, 116, 117, 118, 119, 120, 121, 122, 123, 124, 125, 126, 127, 128, 129, 130, 131, 132, 133, 134, 135, 136, 137, 138, 139, 140, 141] (cutX cy x0 m0 u v) rfl rfl (fun _ _ _ => trivial) dL_law_911 rfl rfl (Nat.le_of_ble_eq_true rfl) ⟨Nat.le_of_ble_eq_true rfl, Nat.le_of_ble_eq_true rfl⟩ ⟨Nat.le_of_ble_eq_true rfl, Nat.le_of_ble_eq_true rfl⟩ (fun r1 u2 H locs hw1 hP9 hD9 hS9 => ?_)
  clear hP hD hS
  have hP := hP9
  have hD := hD9
  have hS := hS9
  clear hP9 hD9 hS9
  refine W.widen (k := 142) (n := 14416) (Nat.le_of_ble_eq_true rfl) (Nat.le_of_ble_eq_true rfl) ?_
  refine lv_pop hx hb dL_law_914 rfl ?_
  refine lv_aload_n hx hb dL_law_915 rfl (lv_at hl 1 rfl) ?_
  refine lv_aload_n hx hb dL_law_916 rfl (lv_at hl 3 rfl) ?_
  refine lv_iload_n hx hb dL_law_917 rfl (lv_at hl 0 rfl) ?_
  refine lv_iconst (v := 1) hx hb dL_law_918 (by decide) ?_
  refine lv_iadd hx hb dL_law_919 ?_
  refine lv_topi (fun y_2 hy_2 => ?_)
  obtain rfl : y_2 = nI (i + 1) := hy_2.trans (nI_add i 1)
  refine va_sld hx hb hX hbl hbA hS (vp_in_nI (by omega) (by omega)) dL_law_920 ?_
  refine x_callVi (q := (RX12, TX12, 89)) (ci := 12) (q0 := 0) (wr := IX cy x0 u2) (rest := []) ⟨hx, hb, hml, hown, hg, hl.1⟩ k_L_122 (tm_luck l D cy m0 v hv (xs (nI (i + 1) : Int32).toNatClampNeg)) E0_blind hK hP hD hS hA [0, 1, 2, 3, 4, 5, 6, 7, 8, 9, 10, 11, 12, 13, 14, 15, 16, 17, 18, 19, 20, 21, 22, 23, 24, 25, 26, 27, 28, 29, 30, 31, 32, 33, 34, 35, 36, 37, 38, 39, 40, 41, 42, 43, 44, 45, 46, 47] [48, 49, 50, 51, 52, 53, 54, 55, 56, 57, 58, 59, 60, 61, 62, 63, 64, 65, 66, 67, 68, 69, 70, 71, 72, 73, 74, 75, 76, 77, 78, 79, 80, 81, 82, 83, 84, 85, 86, 87, 88, 89, 90, 91, 92, 93, 94, 95, 96, 97, 98, 99, 100, 101, 102, 103, 104, 105, 106, 107, 108, 109, 110, 111, 112, 113, 114, 115, 116, 117, 118, 119, 120, 121, 122, 123, 124, 125, 126, 127, 128, 129, 130, 131, 132, 133, 134, 135, 136, 137, 138, 139, 140, 141] (cutM cy x0 m0 u2 v) rfl rfl (fun _ _ _ => trivial) dL_law_921 rfl rfl (Nat.le_of_ble_eq_true rfl) ⟨Nat.le_of_ble_eq_true rfl, Nat.le_of_ble_eq_true rfl⟩ ⟨Nat.le_of_ble_eq_true rfl, Nat.le_of_ble_eq_true rfl⟩ (fun r2 v2 H locs hw2 hP9 hD9 hS9 => ?_)
  clear hP hD hS
  have hP := hP9
  have hD := hD9
  have hS := hS9
  clear hP9 hD9 hS9
  refine W.widen (k := 142) (n := 14416) (Nat.le_of_ble_eq_true rfl) (Nat.le_of_ble_eq_true rfl) ?_
  refine lv_pop hx hb dL_law_924 rfl ?_
  refine lv_goto (tgt := 1244) hx hb dL_law_925 (by decide) ?_
  exact hk u2 v2 H locs ls hw1.1 hw2.1 ⟨(sm_d hT.1 hw1.2.1 hw2.2.1), RH_eq hT.2.1 hw1.2.2.1 hw2.2.2.1, RS_eq hT.2.2.1 hw1.2.1.2.1 hw1.2.2.2.1 hw2.2.2.2.1, RMt_of hw1.2.2.2.2.2 hw2.2.2.2.2.2 hT.2.2.2⟩ hP hD hS hl
theorem gdL_law_928 : decode cL_law 928 = .ok (.aload_n 1, 1) ∧ decode cL_law 929 = .ok (.aload_n 0, 1) ∧ decode cL_law 930 = .ok (.iload_n 3, 1) ∧ decode cL_law 931 = .ok (.iconst 1, 1) ∧ decode cL_law 932 = .ok (.iadd, 1) ∧ decode cL_law 933 = .ok (.iaload, 1) ∧ decode cL_law 934 = .ok (.invokevirtual 123, 3) := by decide +kernel
theorem dL_law_928 : decode cL_law 928 = .ok (.aload_n 1, 1) := gdL_law_928.1
theorem dL_law_929 : decode cL_law 929 = .ok (.aload_n 0, 1) := gdL_law_928.2.1
theorem dL_law_930 : decode cL_law 930 = .ok (.iload_n 3, 1) := gdL_law_928.2.2.1
theorem dL_law_931 : decode cL_law 931 = .ok (.iconst 1, 1) := gdL_law_928.2.2.2.1
theorem dL_law_932 : decode cL_law 932 = .ok (.iadd, 1) := gdL_law_928.2.2.2.2.1
theorem dL_law_933 : decode cL_law 933 = .ok (.iaload, 1) := gdL_law_928.2.2.2.2.2.1
theorem dL_law_934 : decode cL_law 934 = .ok (.invokevirtual 123, 3) := gdL_law_928.2.2.2.2.2.2
theorem k_L_123 : xV RL RX11 123 yX11_winds cX11_winds 4 (some .int) 1 := ⟨⟨m_1288, m_1289, m_1290, m_130, m_1291⟩, rfl, by decide, by decide, by decide +kernel⟩
theorem gdL_law_937 : decode cL_law 937 = .ok (.pop, 1) ∧ decode cL_law 938 = .ok (.aload_n 2, 1) ∧ decode cL_law 939 = .ok (.aload_n 0, 1) ∧ decode cL_law 940 = .ok (.iload_n 3, 1) ∧ decode cL_law 941 = .ok (.iconst 1, 1) ∧ decode cL_law 942 = .ok (.iadd, 1) ∧ decode cL_law 943 = .ok (.iaload, 1) ∧ decode cL_law 944 = .ok (.invokevirtual 126, 3) := by decide +kernel
theorem dL_law_937 : decode cL_law 937 = .ok (.pop, 1) := gdL_law_937.1
theorem dL_law_938 : decode cL_law 938 = .ok (.aload_n 2, 1) := gdL_law_937.2.1
theorem dL_law_939 : decode cL_law 939 = .ok (.aload_n 0, 1) := gdL_law_937.2.2.1
theorem dL_law_940 : decode cL_law 940 = .ok (.iload_n 3, 1) := gdL_law_937.2.2.2.1
theorem dL_law_941 : decode cL_law 941 = .ok (.iconst 1, 1) := gdL_law_937.2.2.2.2.1
theorem dL_law_942 : decode cL_law 942 = .ok (.iadd, 1) := gdL_law_937.2.2.2.2.2.1
theorem dL_law_943 : decode cL_law 943 = .ok (.iaload, 1) := gdL_law_937.2.2.2.2.2.2.1
theorem dL_law_944 : decode cL_law 944 = .ok (.invokevirtual 126, 3) := gdL_law_937.2.2.2.2.2.2.2
theorem k_L_126 : xV RL RX12 126 yX12_winds cX12_winds 4 (some .int) 1 := ⟨⟨m_2092, m_2093, m_2094, m_146, m_2095⟩, rfl, by decide, by decide, by decide +kernel⟩
theorem dL_law_947 : decode cL_law 947 = .ok (.pop, 1) := by decide +kernel
theorem dL_law_948 : decode cL_law 948 = .ok (.goto 296, 3) := by decide +kernel
set_option maxHeartbeats 4000000 in
set_option maxRecDepth 100000 in
theorem lc_winds {p : Program} {e : Env} {s : State} {m : MethodId} {below : List Frame} {meth : Method} {c : Code} (l : Launch) {D : va_G} {cy : Nat → ClassId} {A : Nat → Prop} {b L : Nat} {xs : Nat → Int32} (hL : L ≤ 3072) (C : lwC p s m meth c b L xs D cy A) {adK adV : Nat → Nat} (hE : EV adK adV A s) (x0 m0 : Nat) {i : Nat} (hi : i + 6 ≤ L) (hk : lwW p l e s m below meth c b D cy A x0 m0 i 1244) : lwW p l e s m below meth c b D cy A x0 m0 i 928 := by
  obtain ⟨hx, hb, hr, hml, hown, hg, hlocks, hX, hbl, hK, hA, hAr, hbA⟩ := C
  intro u v H locs ls hu hv hT hP hD hS hl
  refine lv_aload_n hx hb dL_law_928 rfl (lv_at hl 2 rfl) ?_
  refine lv_aload_n hx hb dL_law_929 rfl (lv_at hl 3 rfl) ?_
  refine lv_iload_n hx hb dL_law_930 rfl (lv_at hl 0 rfl) ?_
  refine lv_iconst (v := 1) hx hb dL_law_931 (by decide) ?_
  refine lv_iadd hx hb dL_law_932 ?_
  refine lv_topi (fun y_1 hy_1 => ?_)
  obtain rfl : y_1 = nI (i + 1) := hy_1.trans (nI_add i 1)
  refine va_sld hx hb hX hbl hbA hS (vp_in_nI (by omega) (by omega)) dL_law_933 ?_
  refine x_callVi (q := (RX11, TX11, 14)) (ci := 11) (q0 := 0) (wr := IM cy m0 v) (rest := []) ⟨hx, hb, hml, hown, hg, hl.1⟩ k_L_123 (tx_winds l D cy x0 u hu (xs (nI (i + 1) : Int32).toNatClampNeg)) E0_blind hK hP hD hS hA [0, 1, 2, 3, 4, 5, 6, 7, 8, 9, 10, 11, 12, 13, 14, 15, 16, 17, 18, 19, 20, 21, 22, 23, 24, 25, 26, 27, 28, 29, 30, 31, 32, 33, 34, 35, 36, 37, 38, 39, 40, 41, 42, 43, 44, 45, 46, 47, 48, 49, 50, 51, 52, 53, 54, 55, 56, 57, 58, 59, 60, 61, 62, 63, 64, 65, 66, 67, 68, 69, 70, 71, 72, 73, 74, 75, 76, 77, 78, 79, 80, 81, 82, 83, 84, 85, 86, 87, 88, 89, 90, 91, 92, 93] [94, 95, 96, 97, 98, 99, 100, 101, 102, 103, 104, 105, 106, 107, 108, 109, 110, 111, 112, 113, 114, 115, 116, 117, 118, 119, 120, 121, 122, 123, 124, 125, 126, 127, 128, 129, 130, 131, 132, 133, 134, 135, 136, 137, 138, 139, 140, 141] (cutX cy x0 m0 u v) rfl rfl (fun _ _ _ => trivial) dL_law_934 rfl rfl (Nat.le_of_ble_eq_true rfl) ⟨Nat.le_of_ble_eq_true rfl, Nat.le_of_ble_eq_true rfl⟩ ⟨Nat.le_of_ble_eq_true rfl, Nat.le_of_ble_eq_true rfl⟩ (fun r1 u2 H locs hw1 hP9 hD9 hS9 => ?_)
  clear hP hD hS
  have hP := hP9
  have hD := hD9
  have hS := hS9
  clear hP9 hD9 hS9
  refine W.widen (k := 142) (n := 14416) (Nat.le_of_ble_eq_true rfl) (Nat.le_of_ble_eq_true rfl) ?_
  refine lv_pop hx hb dL_law_937 rfl ?_
  refine lv_aload_n hx hb dL_law_938 rfl (lv_at hl 1 rfl) ?_
  refine lv_aload_n hx hb dL_law_939 rfl (lv_at hl 3 rfl) ?_
  refine lv_iload_n hx hb dL_law_940 rfl (lv_at hl 0 rfl) ?_
  refine lv_iconst (v := 1) hx hb dL_law_941 (by decide) ?_
  refine lv_iadd hx hb dL_law_942 ?_
  refine lv_topi (fun y_2 hy_2 => ?_)
  obtain rfl : y_2 = nI (i + 1) := hy_2.trans (nI_add i 1)
  refine va_sld hx hb hX hbl hbA hS (vp_in_nI (by omega) (by omega)) dL_law_943 ?_
  refine x_callVi (q := (RX12, TX12, 89)) (ci := 12) (q0 := 0) (wr := IX cy x0 u2) (rest := []) ⟨hx, hb, hml, hown, hg, hl.1⟩ k_L_126 (tm_winds l D cy m0 v hv (xs (nI (i + 1) : Int32).toNatClampNeg)) E0_blind hK hP hD hS hA [0, 1, 2, 3, 4, 5, 6, 7, 8, 9, 10, 11, 12, 13, 14, 15, 16, 17, 18, 19, 20, 21, 22, 23, 24, 25, 26, 27, 28, 29, 30, 31, 32, 33, 34, 35, 36, 37, 38, 39, 40, 41, 42, 43, 44, 45, 46, 47] [48, 49, 50, 51, 52, 53, 54, 55, 56, 57, 58, 59, 60, 61, 62, 63, 64, 65, 66, 67, 68, 69, 70, 71, 72, 73, 74, 75, 76, 77, 78, 79, 80, 81, 82, 83, 84, 85, 86, 87, 88, 89, 90, 91, 92, 93, 94, 95, 96, 97, 98, 99, 100, 101, 102, 103, 104, 105, 106, 107, 108, 109, 110, 111, 112, 113, 114, 115, 116, 117, 118, 119, 120, 121, 122, 123, 124, 125, 126, 127, 128, 129, 130, 131, 132, 133, 134, 135, 136, 137, 138, 139, 140, 141] (cutM cy x0 m0 u2 v) rfl rfl (fun _ _ _ => trivial) dL_law_944 rfl rfl (Nat.le_of_ble_eq_true rfl) ⟨Nat.le_of_ble_eq_true rfl, Nat.le_of_ble_eq_true rfl⟩ ⟨Nat.le_of_ble_eq_true rfl, Nat.le_of_ble_eq_true rfl⟩ (fun r2 v2 H locs hw2 hP9 hD9 hS9 => ?_)
  clear hP hD hS
  have hP := hP9
  have hD := hD9
  have hS := hS9
  clear hP9 hD9 hS9
  refine W.widen (k := 142) (n := 14416) (Nat.le_of_ble_eq_true rfl) (Nat.le_of_ble_eq_true rfl) ?_
  refine lv_pop hx hb dL_law_947 rfl ?_
  refine lv_goto (tgt := 1244) hx hb dL_law_948 (by decide) ?_
  exact hk u2 v2 H locs ls hw1.1 hw2.1 ⟨(sm_d hT.1 hw1.2.1 hw2.2.1), RH_eq hT.2.1 hw1.2.2.1 hw2.2.2.1, RS_eq hT.2.2.1 hw1.2.1.2.1 hw1.2.2.2.1 hw2.2.2.2.1, RMt_of hw1.2.2.2.2.2 hw2.2.2.2.2.2 hT.2.2.2⟩ hP hD hS hl
theorem gdL_law_951 : decode cL_law 951 = .ok (.aload_n 1, 1) ∧ decode cL_law 952 = .ok (.aload_n 0, 1) ∧ decode cL_law 953 = .ok (.iload_n 3, 1) ∧ decode cL_law 954 = .ok (.iconst 1, 1) ∧ decode cL_law 955 = .ok (.iadd, 1) ∧ decode cL_law 956 = .ok (.iaload, 1) ∧ decode cL_law 957 = .ok (.invokevirtual 127, 3) := by decide +kernel
theorem dL_law_951 : decode cL_law 951 = .ok (.aload_n 1, 1) := gdL_law_951.1
theorem dL_law_952 : decode cL_law 952 = .ok (.aload_n 0, 1) := gdL_law_951.2.1
theorem dL_law_953 : decode cL_law 953 = .ok (.iload_n 3, 1) := gdL_law_951.2.2.1
theorem dL_law_954 : decode cL_law 954 = .ok (.iconst 1, 1) := gdL_law_951.2.2.2.1
theorem dL_law_955 : decode cL_law 955 = .ok (.iadd, 1) := gdL_law_951.2.2.2.2.1
theorem dL_law_956 : decode cL_law 956 = .ok (.iaload, 1) := gdL_law_951.2.2.2.2.2.1
theorem dL_law_957 : decode cL_law 957 = .ok (.invokevirtual 127, 3) := gdL_law_951.2.2.2.2.2.2
theorem k_L_127 : xV RL RX11 127 yX11_more cX11_more 5 (some .int) 1 := ⟨⟨m_1292, m_1293, m_1294, m_130, m_1295⟩, rfl, by decide, by decide, by decide +kernel⟩
theorem gdL_law_960 : decode cL_law 960 = .ok (.pop, 1) ∧ decode cL_law 961 = .ok (.aload_n 2, 1) ∧ decode cL_law 962 = .ok (.aload_n 0, 1) ∧ decode cL_law 963 = .ok (.iload_n 3, 1) ∧ decode cL_law 964 = .ok (.iconst 1, 1) ∧ decode cL_law 965 = .ok (.iadd, 1) ∧ decode cL_law 966 = .ok (.iaload, 1) ∧ decode cL_law 967 = .ok (.invokevirtual 130, 3) := by decide +kernel
theorem dL_law_960 : decode cL_law 960 = .ok (.pop, 1) := gdL_law_960.1
theorem dL_law_961 : decode cL_law 961 = .ok (.aload_n 2, 1) := gdL_law_960.2.1
theorem dL_law_962 : decode cL_law 962 = .ok (.aload_n 0, 1) := gdL_law_960.2.2.1
theorem dL_law_963 : decode cL_law 963 = .ok (.iload_n 3, 1) := gdL_law_960.2.2.2.1
theorem dL_law_964 : decode cL_law 964 = .ok (.iconst 1, 1) := gdL_law_960.2.2.2.2.1
theorem dL_law_965 : decode cL_law 965 = .ok (.iadd, 1) := gdL_law_960.2.2.2.2.2.1
theorem dL_law_966 : decode cL_law 966 = .ok (.iaload, 1) := gdL_law_960.2.2.2.2.2.2.1
theorem dL_law_967 : decode cL_law 967 = .ok (.invokevirtual 130, 3) := gdL_law_960.2.2.2.2.2.2.2
theorem k_L_130 : xV RL RX12 130 yX12_more cX12_more 4 (some .int) 1 := ⟨⟨m_2096, m_2097, m_2098, m_146, m_2099⟩, rfl, by decide, by decide, by decide +kernel⟩
theorem dL_law_970 : decode cL_law 970 = .ok (.pop, 1) := by decide +kernel
theorem dL_law_971 : decode cL_law 971 = .ok (.goto 273, 3) := by decide +kernel
set_option maxHeartbeats 4000000 in
set_option maxRecDepth 100000 in
theorem lc_more {p : Program} {e : Env} {s : State} {m : MethodId} {below : List Frame} {meth : Method} {c : Code} (l : Launch) {D : va_G} {cy : Nat → ClassId} {A : Nat → Prop} {b L : Nat} {xs : Nat → Int32} (hL : L ≤ 3072) (C : lwC p s m meth c b L xs D cy A) {adK adV : Nat → Nat} (hE : EV adK adV A s) (x0 m0 : Nat) {i : Nat} (hi : i + 6 ≤ L) (hk : lwW p l e s m below meth c b D cy A x0 m0 i 1244) : lwW p l e s m below meth c b D cy A x0 m0 i 951 := by
  obtain ⟨hx, hb, hr, hml, hown, hg, hlocks, hX, hbl, hK, hA, hAr, hbA⟩ := C
  intro u v H locs ls hu hv hT hP hD hS hl
  refine lv_aload_n hx hb dL_law_951 rfl (lv_at hl 2 rfl) ?_
  refine lv_aload_n hx hb dL_law_952 rfl (lv_at hl 3 rfl) ?_
  refine lv_iload_n hx hb dL_law_953 rfl (lv_at hl 0 rfl) ?_
  refine lv_iconst (v := 1) hx hb dL_law_954 (by decide) ?_
  refine lv_iadd hx hb dL_law_955 ?_
  refine lv_topi (fun y_1 hy_1 => ?_)
  obtain rfl : y_1 = nI (i + 1) := hy_1.trans (nI_add i 1)
  refine va_sld hx hb hX hbl hbA hS (vp_in_nI (by omega) (by omega)) dL_law_956 ?_
  refine x_callVi (q := (RX11, TX11, 14)) (ci := 11) (q0 := 0) (wr := IM cy m0 v) (rest := []) ⟨hx, hb, hml, hown, hg, hl.1⟩ k_L_127 (tx_more l D cy x0 u hu (xs (nI (i + 1) : Int32).toNatClampNeg)) E0_blind hK hP hD hS hA [0, 1, 2, 3, 4, 5, 6, 7, 8, 9, 10, 11, 12, 13, 14, 15, 16, 17, 18, 19, 20, 21, 22, 23, 24, 25, 26, 27, 28, 29, 30, 31, 32, 33, 34, 35, 36, 37, 38, 39, 40, 41, 42, 43, 44, 45, 46, 47, 48, 49, 50, 51, 52, 53, 54, 55, 56, 57, 58, 59, 60, 61, 62, 63, 64, 65, 66, 67, 68, 69, 70, 71, 72, 73, 74, 75, 76, 77, 78, 79, 80, 81, 82, 83, 84, 85, 86, 87, 88, 89, 90, 91, 92, 93] [94, 95, 96, 97, 98, 99, 100, 101, 102, 103, 104, 105, 106, 107, 108, 109, 110, 111, 112, 113, 114, 115, 116, 117, 118, 119, 120, 121, 122, 123, 124, 125, 126, 127, 128, 129, 130, 131, 132, 133, 134, 135, 136, 137, 138, 139, 140, 141] (cutX cy x0 m0 u v) rfl rfl (fun _ _ _ => trivial) dL_law_957 rfl rfl (Nat.le_of_ble_eq_true rfl) ⟨Nat.le_of_ble_eq_true rfl, Nat.le_of_ble_eq_true rfl⟩ ⟨Nat.le_of_ble_eq_true rfl, Nat.le_of_ble_eq_true rfl⟩ (fun r1 u2 H locs hw1 hP9 hD9 hS9 => ?_)
  clear hP hD hS
  have hP := hP9
  have hD := hD9
  have hS := hS9
  clear hP9 hD9 hS9
  refine W.widen (k := 142) (n := 14416) (Nat.le_of_ble_eq_true rfl) (Nat.le_of_ble_eq_true rfl) ?_
  refine lv_pop hx hb dL_law_960 rfl ?_
  refine lv_aload_n hx hb dL_law_961 rfl (lv_at hl 1 rfl) ?_
  refine lv_aload_n hx hb dL_law_962 rfl (lv_at hl 3 rfl) ?_
  refine lv_iload_n hx hb dL_law_963 rfl (lv_at hl 0 rfl) ?_
  refine lv_iconst (v := 1) hx hb dL_law_964 (by decide) ?_
  refine lv_iadd hx hb dL_law_965 ?_
  refine lv_topi (fun y_2 hy_2 => ?_)
  obtain rfl : y_2 = nI (i + 1) := hy_2.trans (nI_add i 1)
  refine va_sld hx hb hX hbl hbA hS (vp_in_nI (by omega) (by omega)) dL_law_966 ?_
  refine x_callVi (q := (RX12, TX12, 89)) (ci := 12) (q0 := 0) (wr := IX cy x0 u2) (rest := []) ⟨hx, hb, hml, hown, hg, hl.1⟩ k_L_130 (tm_more l D cy m0 v hv (xs (nI (i + 1) : Int32).toNatClampNeg)) E0_blind hK hP hD hS hA [0, 1, 2, 3, 4, 5, 6, 7, 8, 9, 10, 11, 12, 13, 14, 15, 16, 17, 18, 19, 20, 21, 22, 23, 24, 25, 26, 27, 28, 29, 30, 31, 32, 33, 34, 35, 36, 37, 38, 39, 40, 41, 42, 43, 44, 45, 46, 47] [48, 49, 50, 51, 52, 53, 54, 55, 56, 57, 58, 59, 60, 61, 62, 63, 64, 65, 66, 67, 68, 69, 70, 71, 72, 73, 74, 75, 76, 77, 78, 79, 80, 81, 82, 83, 84, 85, 86, 87, 88, 89, 90, 91, 92, 93, 94, 95, 96, 97, 98, 99, 100, 101, 102, 103, 104, 105, 106, 107, 108, 109, 110, 111, 112, 113, 114, 115, 116, 117, 118, 119, 120, 121, 122, 123, 124, 125, 126, 127, 128, 129, 130, 131, 132, 133, 134, 135, 136, 137, 138, 139, 140, 141] (cutM cy x0 m0 u2 v) rfl rfl (fun _ _ _ => trivial) dL_law_967 rfl rfl (Nat.le_of_ble_eq_true rfl) ⟨Nat.le_of_ble_eq_true rfl, Nat.le_of_ble_eq_true rfl⟩ ⟨Nat.le_of_ble_eq_true rfl, Nat.le_of_ble_eq_true rfl⟩ (fun r2 v2 H locs hw2 hP9 hD9 hS9 => ?_)
  clear hP hD hS
  have hP := hP9
  have hD := hD9
  have hS := hS9
  clear hP9 hD9 hS9
  refine W.widen (k := 142) (n := 14416) (Nat.le_of_ble_eq_true rfl) (Nat.le_of_ble_eq_true rfl) ?_
  refine lv_pop hx hb dL_law_970 rfl ?_
  refine lv_goto (tgt := 1244) hx hb dL_law_971 (by decide) ?_
  exact hk u2 v2 H locs ls hw1.1 hw2.1 ⟨(sm_d hT.1 hw1.2.1 hw2.2.1), RH_eq hT.2.1 hw1.2.2.1 hw2.2.2.1, RS_eq hT.2.2.1 hw1.2.1.2.1 hw1.2.2.2.1 hw2.2.2.2.1, RMt_of hw1.2.2.2.2.2 hw2.2.2.2.2.2 hT.2.2.2⟩ hP hD hS hl
theorem gdL_law_974 : decode cL_law 974 = .ok (.aload_n 1, 1) ∧ decode cL_law 975 = .ok (.aload_n 0, 1) ∧ decode cL_law 976 = .ok (.iload_n 3, 1) ∧ decode cL_law 977 = .ok (.iconst 1, 1) ∧ decode cL_law 978 = .ok (.iadd, 1) ∧ decode cL_law 979 = .ok (.iaload, 1) ∧ decode cL_law 980 = .ok (.invokevirtual 131, 3) := by decide +kernel
theorem dL_law_974 : decode cL_law 974 = .ok (.aload_n 1, 1) := gdL_law_974.1
theorem dL_law_975 : decode cL_law 975 = .ok (.aload_n 0, 1) := gdL_law_974.2.1
theorem dL_law_976 : decode cL_law 976 = .ok (.iload_n 3, 1) := gdL_law_974.2.2.1
theorem dL_law_977 : decode cL_law 977 = .ok (.iconst 1, 1) := gdL_law_974.2.2.2.1
theorem dL_law_978 : decode cL_law 978 = .ok (.iadd, 1) := gdL_law_974.2.2.2.2.1
theorem dL_law_979 : decode cL_law 979 = .ok (.iaload, 1) := gdL_law_974.2.2.2.2.2.1
theorem dL_law_980 : decode cL_law 980 = .ok (.invokevirtual 131, 3) := gdL_law_974.2.2.2.2.2.2
theorem k_L_131 : xV RL RX11 131 yX11_way cX11_way 3 (some .int) 1 := ⟨⟨m_1296, m_1297, m_1298, m_130, m_1299⟩, rfl, by decide, by decide, by decide +kernel⟩
theorem gdL_law_983 : decode cL_law 983 = .ok (.pop, 1) ∧ decode cL_law 984 = .ok (.aload_n 2, 1) ∧ decode cL_law 985 = .ok (.aload_n 0, 1) ∧ decode cL_law 986 = .ok (.iload_n 3, 1) ∧ decode cL_law 987 = .ok (.iconst 1, 1) ∧ decode cL_law 988 = .ok (.iadd, 1) ∧ decode cL_law 989 = .ok (.iaload, 1) ∧ decode cL_law 990 = .ok (.invokevirtual 134, 3) := by decide +kernel
theorem dL_law_983 : decode cL_law 983 = .ok (.pop, 1) := gdL_law_983.1
theorem dL_law_984 : decode cL_law 984 = .ok (.aload_n 2, 1) := gdL_law_983.2.1
theorem dL_law_985 : decode cL_law 985 = .ok (.aload_n 0, 1) := gdL_law_983.2.2.1
theorem dL_law_986 : decode cL_law 986 = .ok (.iload_n 3, 1) := gdL_law_983.2.2.2.1
theorem dL_law_987 : decode cL_law 987 = .ok (.iconst 1, 1) := gdL_law_983.2.2.2.2.1
theorem dL_law_988 : decode cL_law 988 = .ok (.iadd, 1) := gdL_law_983.2.2.2.2.2.1
theorem dL_law_989 : decode cL_law 989 = .ok (.iaload, 1) := gdL_law_983.2.2.2.2.2.2.1
theorem dL_law_990 : decode cL_law 990 = .ok (.invokevirtual 134, 3) := gdL_law_983.2.2.2.2.2.2.2
theorem k_L_134 : xV RL RX12 134 yX12_way cX12_way 6 (some .int) 1 := ⟨⟨m_2100, m_2101, m_2102, m_146, m_2103⟩, rfl, by decide, by decide, by decide +kernel⟩
theorem dL_law_993 : decode cL_law 993 = .ok (.pop, 1) := by decide +kernel
theorem dL_law_994 : decode cL_law 994 = .ok (.goto 250, 3) := by decide +kernel
set_option maxHeartbeats 4000000 in
set_option maxRecDepth 100000 in
theorem lc_way {p : Program} {e : Env} {s : State} {m : MethodId} {below : List Frame} {meth : Method} {c : Code} (l : Launch) {D : va_G} {cy : Nat → ClassId} {A : Nat → Prop} {b L : Nat} {xs : Nat → Int32} (hL : L ≤ 3072) (C : lwC p s m meth c b L xs D cy A) {adK adV : Nat → Nat} (hE : EV adK adV A s) (x0 m0 : Nat) {i : Nat} (hi : i + 6 ≤ L) (hk : lwW p l e s m below meth c b D cy A x0 m0 i 1244) : lwW p l e s m below meth c b D cy A x0 m0 i 974 := by
  obtain ⟨hx, hb, hr, hml, hown, hg, hlocks, hX, hbl, hK, hA, hAr, hbA⟩ := C
  intro u v H locs ls hu hv hT hP hD hS hl
  refine lv_aload_n hx hb dL_law_974 rfl (lv_at hl 2 rfl) ?_
  refine lv_aload_n hx hb dL_law_975 rfl (lv_at hl 3 rfl) ?_
  refine lv_iload_n hx hb dL_law_976 rfl (lv_at hl 0 rfl) ?_
  refine lv_iconst (v := 1) hx hb dL_law_977 (by decide) ?_
  refine lv_iadd hx hb dL_law_978 ?_
  refine lv_topi (fun y_1 hy_1 => ?_)
  obtain rfl : y_1 = nI (i + 1) := hy_1.trans (nI_add i 1)
  refine va_sld hx hb hX hbl hbA hS (vp_in_nI (by omega) (by omega)) dL_law_979 ?_
  refine x_callVi (q := (RX11, TX11, 14)) (ci := 11) (q0 := 0) (wr := IM cy m0 v) (rest := []) ⟨hx, hb, hml, hown, hg, hl.1⟩ k_L_131 (tx_way l D cy x0 u hu (xs (nI (i + 1) : Int32).toNatClampNeg)) E0_blind hK hP hD hS hA [0, 1, 2, 3, 4, 5, 6, 7, 8, 9, 10, 11, 12, 13, 14, 15, 16, 17, 18, 19, 20, 21, 22, 23, 24, 25, 26, 27, 28, 29, 30, 31, 32, 33, 34, 35, 36, 37, 38, 39, 40, 41, 42, 43, 44, 45, 46, 47, 48, 49, 50, 51, 52, 53, 54, 55, 56, 57, 58, 59, 60, 61, 62, 63, 64, 65, 66, 67, 68, 69, 70, 71, 72, 73, 74, 75, 76, 77, 78, 79, 80, 81, 82, 83, 84, 85, 86, 87, 88, 89, 90, 91, 92, 93] [94, 95, 96, 97, 98, 99, 100, 101, 102, 103, 104, 105, 106, 107, 108, 109, 110, 111, 112, 113, 114, 115, 116, 117, 118, 119, 120, 121, 122, 123, 124, 125, 126, 127, 128, 129, 130, 131, 132, 133, 134, 135, 136, 137, 138, 139, 140, 141] (cutX cy x0 m0 u v) rfl rfl (fun _ _ _ => trivial) dL_law_980 rfl rfl (Nat.le_of_ble_eq_true rfl) ⟨Nat.le_of_ble_eq_true rfl, Nat.le_of_ble_eq_true rfl⟩ ⟨Nat.le_of_ble_eq_true rfl, Nat.le_of_ble_eq_true rfl⟩ (fun r1 u2 H locs hw1 hP9 hD9 hS9 => ?_)
  clear hP hD hS
  have hP := hP9
  have hD := hD9
  have hS := hS9
  clear hP9 hD9 hS9
  refine W.widen (k := 142) (n := 14416) (Nat.le_of_ble_eq_true rfl) (Nat.le_of_ble_eq_true rfl) ?_
  refine lv_pop hx hb dL_law_983 rfl ?_
  refine lv_aload_n hx hb dL_law_984 rfl (lv_at hl 1 rfl) ?_
  refine lv_aload_n hx hb dL_law_985 rfl (lv_at hl 3 rfl) ?_
  refine lv_iload_n hx hb dL_law_986 rfl (lv_at hl 0 rfl) ?_
  refine lv_iconst (v := 1) hx hb dL_law_987 (by decide) ?_
  refine lv_iadd hx hb dL_law_988 ?_
  refine lv_topi (fun y_2 hy_2 => ?_)
  obtain rfl : y_2 = nI (i + 1) := hy_2.trans (nI_add i 1)
  refine va_sld hx hb hX hbl hbA hS (vp_in_nI (by omega) (by omega)) dL_law_989 ?_
  refine x_callVi (q := (RX12, TX12, 89)) (ci := 12) (q0 := 0) (wr := IX cy x0 u2) (rest := []) ⟨hx, hb, hml, hown, hg, hl.1⟩ k_L_134 (tm_way l D cy m0 v hv (xs (nI (i + 1) : Int32).toNatClampNeg)) E0_blind hK hP hD hS hA [0, 1, 2, 3, 4, 5, 6, 7, 8, 9, 10, 11, 12, 13, 14, 15, 16, 17, 18, 19, 20, 21, 22, 23, 24, 25, 26, 27, 28, 29, 30, 31, 32, 33, 34, 35, 36, 37, 38, 39, 40, 41, 42, 43, 44, 45, 46, 47] [48, 49, 50, 51, 52, 53, 54, 55, 56, 57, 58, 59, 60, 61, 62, 63, 64, 65, 66, 67, 68, 69, 70, 71, 72, 73, 74, 75, 76, 77, 78, 79, 80, 81, 82, 83, 84, 85, 86, 87, 88, 89, 90, 91, 92, 93, 94, 95, 96, 97, 98, 99, 100, 101, 102, 103, 104, 105, 106, 107, 108, 109, 110, 111, 112, 113, 114, 115, 116, 117, 118, 119, 120, 121, 122, 123, 124, 125, 126, 127, 128, 129, 130, 131, 132, 133, 134, 135, 136, 137, 138, 139, 140, 141] (cutM cy x0 m0 u2 v) rfl rfl (fun _ _ _ => trivial) dL_law_990 rfl rfl (Nat.le_of_ble_eq_true rfl) ⟨Nat.le_of_ble_eq_true rfl, Nat.le_of_ble_eq_true rfl⟩ ⟨Nat.le_of_ble_eq_true rfl, Nat.le_of_ble_eq_true rfl⟩ (fun r2 v2 H locs hw2 hP9 hD9 hS9 => ?_)
  clear hP hD hS
  have hP := hP9
  have hD := hD9
  have hS := hS9
  clear hP9 hD9 hS9
  refine W.widen (k := 142) (n := 14416) (Nat.le_of_ble_eq_true rfl) (Nat.le_of_ble_eq_true rfl) ?_
  refine lv_pop hx hb dL_law_993 rfl ?_
  refine lv_goto (tgt := 1244) hx hb dL_law_994 (by decide) ?_
  exact hk u2 v2 H locs ls hw1.1 hw2.1 ⟨(sm_d hT.1 hw1.2.1 hw2.2.1), RH_eq hT.2.1 hw1.2.2.1 hw2.2.2.1, RS_eq hT.2.2.1 hw1.2.1.2.1 hw1.2.2.2.1 hw2.2.2.2.1, RMt_of hw1.2.2.2.2.2 hw2.2.2.2.2.2 hT.2.2.2⟩ hP hD hS hl
theorem gdL_law_997 : decode cL_law 997 = .ok (.aload_n 1, 1) ∧ decode cL_law 998 = .ok (.aload_n 0, 1) ∧ decode cL_law 999 = .ok (.iload_n 3, 1) ∧ decode cL_law 1000 = .ok (.iconst 1, 1) ∧ decode cL_law 1001 = .ok (.iadd, 1) ∧ decode cL_law 1002 = .ok (.iaload, 1) ∧ decode cL_law 1003 = .ok (.invokevirtual 135, 3) := by decide +kernel
theorem dL_law_997 : decode cL_law 997 = .ok (.aload_n 1, 1) := gdL_law_997.1
theorem dL_law_998 : decode cL_law 998 = .ok (.aload_n 0, 1) := gdL_law_997.2.1
theorem dL_law_999 : decode cL_law 999 = .ok (.iload_n 3, 1) := gdL_law_997.2.2.1
theorem dL_law_1000 : decode cL_law 1000 = .ok (.iconst 1, 1) := gdL_law_997.2.2.2.1
theorem dL_law_1001 : decode cL_law 1001 = .ok (.iadd, 1) := gdL_law_997.2.2.2.2.1
theorem dL_law_1002 : decode cL_law 1002 = .ok (.iaload, 1) := gdL_law_997.2.2.2.2.2.1
theorem dL_law_1003 : decode cL_law 1003 = .ok (.invokevirtual 135, 3) := gdL_law_997.2.2.2.2.2.2
theorem k_L_135 : xV RL RX11 135 yX11_lies cX11_lies 2 (some .int) 1 := ⟨⟨m_1316, m_1317, m_1318, m_130, m_1319⟩, rfl, by decide, by decide, by decide +kernel⟩
theorem gdL_law_1006 : decode cL_law 1006 = .ok (.pop, 1) ∧ decode cL_law 1007 = .ok (.aload_n 2, 1) ∧ decode cL_law 1008 = .ok (.aload_n 0, 1) ∧ decode cL_law 1009 = .ok (.iload_n 3, 1) ∧ decode cL_law 1010 = .ok (.iconst 1, 1) ∧ decode cL_law 1011 = .ok (.iadd, 1) ∧ decode cL_law 1012 = .ok (.iaload, 1) ∧ decode cL_law 1013 = .ok (.invokevirtual 138, 3) := by decide +kernel
theorem dL_law_1006 : decode cL_law 1006 = .ok (.pop, 1) := gdL_law_1006.1
theorem dL_law_1007 : decode cL_law 1007 = .ok (.aload_n 2, 1) := gdL_law_1006.2.1
theorem dL_law_1008 : decode cL_law 1008 = .ok (.aload_n 0, 1) := gdL_law_1006.2.2.1
theorem dL_law_1009 : decode cL_law 1009 = .ok (.iload_n 3, 1) := gdL_law_1006.2.2.2.1
theorem dL_law_1010 : decode cL_law 1010 = .ok (.iconst 1, 1) := gdL_law_1006.2.2.2.2.1
theorem dL_law_1011 : decode cL_law 1011 = .ok (.iadd, 1) := gdL_law_1006.2.2.2.2.2.1
theorem dL_law_1012 : decode cL_law 1012 = .ok (.iaload, 1) := gdL_law_1006.2.2.2.2.2.2.1
theorem dL_law_1013 : decode cL_law 1013 = .ok (.invokevirtual 138, 3) := gdL_law_1006.2.2.2.2.2.2.2
theorem k_L_138 : xV RL RX12 138 yX12_lies cX12_lies 2 (some .int) 1 := ⟨⟨m_2104, m_2105, m_2106, m_146, m_2107⟩, rfl, by decide, by decide, by decide +kernel⟩
theorem dL_law_1016 : decode cL_law 1016 = .ok (.pop, 1) := by decide +kernel
theorem dL_law_1017 : decode cL_law 1017 = .ok (.goto 227, 3) := by decide +kernel
set_option maxHeartbeats 4000000 in
set_option maxRecDepth 100000 in
theorem lc_lies {p : Program} {e : Env} {s : State} {m : MethodId} {below : List Frame} {meth : Method} {c : Code} (l : Launch) {D : va_G} {cy : Nat → ClassId} {A : Nat → Prop} {b L : Nat} {xs : Nat → Int32} (hL : L ≤ 3072) (C : lwC p s m meth c b L xs D cy A) {adK adV : Nat → Nat} (hE : EV adK adV A s) (x0 m0 : Nat) {i : Nat} (hi : i + 6 ≤ L) (hk : lwW p l e s m below meth c b D cy A x0 m0 i 1244) : lwW p l e s m below meth c b D cy A x0 m0 i 997 := by
  obtain ⟨hx, hb, hr, hml, hown, hg, hlocks, hX, hbl, hK, hA, hAr, hbA⟩ := C
  intro u v H locs ls hu hv hT hP hD hS hl
  refine lv_aload_n hx hb dL_law_997 rfl (lv_at hl 2 rfl) ?_
  refine lv_aload_n hx hb dL_law_998 rfl (lv_at hl 3 rfl) ?_
  refine lv_iload_n hx hb dL_law_999 rfl (lv_at hl 0 rfl) ?_
  refine lv_iconst (v := 1) hx hb dL_law_1000 (by decide) ?_
  refine lv_iadd hx hb dL_law_1001 ?_
  refine lv_topi (fun y_1 hy_1 => ?_)
  obtain rfl : y_1 = nI (i + 1) := hy_1.trans (nI_add i 1)
  refine va_sld hx hb hX hbl hbA hS (vp_in_nI (by omega) (by omega)) dL_law_1002 ?_
  refine x_callVi (q := (RX11, TX11, 14)) (ci := 11) (q0 := 0) (wr := IM cy m0 v) (rest := []) ⟨hx, hb, hml, hown, hg, hl.1⟩ k_L_135 (tx_lies l D cy x0 u hu (xs (nI (i + 1) : Int32).toNatClampNeg)) E0_blind hK hP hD hS hA [0, 1, 2, 3, 4, 5, 6, 7, 8, 9, 10, 11, 12, 13, 14, 15, 16, 17, 18, 19, 20, 21, 22, 23, 24, 25, 26, 27, 28, 29, 30, 31, 32, 33, 34, 35, 36, 37, 38, 39, 40, 41, 42, 43, 44, 45, 46, 47, 48, 49, 50, 51, 52, 53, 54, 55, 56, 57, 58, 59, 60, 61, 62, 63, 64, 65, 66, 67, 68, 69, 70, 71, 72, 73, 74, 75, 76, 77, 78, 79, 80, 81, 82, 83, 84, 85, 86, 87, 88, 89, 90, 91, 92, 93] [94, 95, 96, 97, 98, 99, 100, 101, 102, 103, 104, 105, 106, 107, 108, 109, 110, 111, 112, 113, 114, 115, 116, 117, 118, 119, 120, 121, 122, 123, 124, 125, 126, 127, 128, 129, 130, 131, 132, 133, 134, 135, 136, 137, 138, 139, 140, 141] (cutX cy x0 m0 u v) rfl rfl (fun _ _ _ => trivial) dL_law_1003 rfl rfl (Nat.le_of_ble_eq_true rfl) ⟨Nat.le_of_ble_eq_true rfl, Nat.le_of_ble_eq_true rfl⟩ ⟨Nat.le_of_ble_eq_true rfl, Nat.le_of_ble_eq_true rfl⟩ (fun r1 u2 H locs hw1 hP9 hD9 hS9 => ?_)
  clear hP hD hS
  have hP := hP9
  have hD := hD9
  have hS := hS9
  clear hP9 hD9 hS9
  refine W.widen (k := 142) (n := 14416) (Nat.le_of_ble_eq_true rfl) (Nat.le_of_ble_eq_true rfl) ?_
  refine lv_pop hx hb dL_law_1006 rfl ?_
  refine lv_aload_n hx hb dL_law_1007 rfl (lv_at hl 1 rfl) ?_
  refine lv_aload_n hx hb dL_law_1008 rfl (lv_at hl 3 rfl) ?_
  refine lv_iload_n hx hb dL_law_1009 rfl (lv_at hl 0 rfl) ?_
  refine lv_iconst (v := 1) hx hb dL_law_1010 (by decide) ?_
  refine lv_iadd hx hb dL_law_1011 ?_
  refine lv_topi (fun y_2 hy_2 => ?_)
  obtain rfl : y_2 = nI (i + 1) := hy_2.trans (nI_add i 1)
  refine va_sld hx hb hX hbl hbA hS (vp_in_nI (by omega) (by omega)) dL_law_1012 ?_
  refine x_callVi (q := (RX12, TX12, 89)) (ci := 12) (q0 := 0) (wr := IX cy x0 u2) (rest := []) ⟨hx, hb, hml, hown, hg, hl.1⟩ k_L_138 (tm_lies l D cy m0 v hv (xs (nI (i + 1) : Int32).toNatClampNeg)) E0_blind hK hP hD hS hA [0, 1, 2, 3, 4, 5, 6, 7, 8, 9, 10, 11, 12, 13, 14, 15, 16, 17, 18, 19, 20, 21, 22, 23, 24, 25, 26, 27, 28, 29, 30, 31, 32, 33, 34, 35, 36, 37, 38, 39, 40, 41, 42, 43, 44, 45, 46, 47] [48, 49, 50, 51, 52, 53, 54, 55, 56, 57, 58, 59, 60, 61, 62, 63, 64, 65, 66, 67, 68, 69, 70, 71, 72, 73, 74, 75, 76, 77, 78, 79, 80, 81, 82, 83, 84, 85, 86, 87, 88, 89, 90, 91, 92, 93, 94, 95, 96, 97, 98, 99, 100, 101, 102, 103, 104, 105, 106, 107, 108, 109, 110, 111, 112, 113, 114, 115, 116, 117, 118, 119, 120, 121, 122, 123, 124, 125, 126, 127, 128, 129, 130, 131, 132, 133, 134, 135, 136, 137, 138, 139, 140, 141] (cutM cy x0 m0 u2 v) rfl rfl (fun _ _ _ => trivial) dL_law_1013 rfl rfl (Nat.le_of_ble_eq_true rfl) ⟨Nat.le_of_ble_eq_true rfl, Nat.le_of_ble_eq_true rfl⟩ ⟨Nat.le_of_ble_eq_true rfl, Nat.le_of_ble_eq_true rfl⟩ (fun r2 v2 H locs hw2 hP9 hD9 hS9 => ?_)
  clear hP hD hS
  have hP := hP9
  have hD := hD9
  have hS := hS9
  clear hP9 hD9 hS9
  refine W.widen (k := 142) (n := 14416) (Nat.le_of_ble_eq_true rfl) (Nat.le_of_ble_eq_true rfl) ?_
  refine lv_pop hx hb dL_law_1016 rfl ?_
  refine lv_goto (tgt := 1244) hx hb dL_law_1017 (by decide) ?_
  exact hk u2 v2 H locs ls hw1.1 hw2.1 ⟨(sm_d hT.1 hw1.2.1 hw2.2.1), RH_eq hT.2.1 hw1.2.2.1 hw2.2.2.1, RS_eq hT.2.2.1 hw1.2.1.2.1 hw1.2.2.2.1 hw2.2.2.2.1, RMt_of hw1.2.2.2.2.2 hw2.2.2.2.2.2 hT.2.2.2⟩ hP hD hS hl
theorem gdL_law_1020 : decode cL_law 1020 = .ok (.aload_n 1, 1) ∧ decode cL_law 1021 = .ok (.aload_n 0, 1) ∧ decode cL_law 1022 = .ok (.iload_n 3, 1) ∧ decode cL_law 1023 = .ok (.iconst 1, 1) ∧ decode cL_law 1024 = .ok (.iadd, 1) ∧ decode cL_law 1025 = .ok (.iaload, 1) ∧ decode cL_law 1026 = .ok (.aload_n 0, 1) ∧ decode cL_law 1027 = .ok (.iload_n 3, 1) ∧ decode cL_law 1028 = .ok (.iconst 2, 1) ∧ decode cL_law 1029 = .ok (.iadd, 1) ∧ decode cL_law 1030 = .ok (.iaload, 1) ∧ decode cL_law 1031 = .ok (.aload_n 0, 1) := by decide +kernel
theorem dL_law_1020 : decode cL_law 1020 = .ok (.aload_n 1, 1) := gdL_law_1020.1
theorem dL_law_1021 : decode cL_law 1021 = .ok (.aload_n 0, 1) := gdL_law_1020.2.1
theorem dL_law_1022 : decode cL_law 1022 = .ok (.iload_n 3, 1) := gdL_law_1020.2.2.1
theorem dL_law_1023 : decode cL_law 1023 = .ok (.iconst 1, 1) := gdL_law_1020.2.2.2.1
theorem dL_law_1024 : decode cL_law 1024 = .ok (.iadd, 1) := gdL_law_1020.2.2.2.2.1
theorem dL_law_1025 : decode cL_law 1025 = .ok (.iaload, 1) := gdL_law_1020.2.2.2.2.2.1
theorem dL_law_1026 : decode cL_law 1026 = .ok (.aload_n 0, 1) := gdL_law_1020.2.2.2.2.2.2.1
theorem dL_law_1027 : decode cL_law 1027 = .ok (.iload_n 3, 1) := gdL_law_1020.2.2.2.2.2.2.2.1
theorem dL_law_1028 : decode cL_law 1028 = .ok (.iconst 2, 1) := gdL_law_1020.2.2.2.2.2.2.2.2.1
theorem dL_law_1029 : decode cL_law 1029 = .ok (.iadd, 1) := gdL_law_1020.2.2.2.2.2.2.2.2.2.1
theorem dL_law_1030 : decode cL_law 1030 = .ok (.iaload, 1) := gdL_law_1020.2.2.2.2.2.2.2.2.2.2.1
theorem dL_law_1031 : decode cL_law 1031 = .ok (.aload_n 0, 1) := gdL_law_1020.2.2.2.2.2.2.2.2.2.2.2
theorem gdL_law_1032 : decode cL_law 1032 = .ok (.iload_n 3, 1) ∧ decode cL_law 1033 = .ok (.iconst 3, 1) ∧ decode cL_law 1034 = .ok (.iadd, 1) ∧ decode cL_law 1035 = .ok (.iaload, 1) ∧ decode cL_law 1036 = .ok (.invokevirtual 139, 3) := by decide +kernel
theorem dL_law_1032 : decode cL_law 1032 = .ok (.iload_n 3, 1) := gdL_law_1032.1
theorem dL_law_1033 : decode cL_law 1033 = .ok (.iconst 3, 1) := gdL_law_1032.2.1
theorem dL_law_1034 : decode cL_law 1034 = .ok (.iadd, 1) := gdL_law_1032.2.2.1
theorem dL_law_1035 : decode cL_law 1035 = .ok (.iaload, 1) := gdL_law_1032.2.2.2.1
theorem dL_law_1036 : decode cL_law 1036 = .ok (.invokevirtual 139, 3) := gdL_law_1032.2.2.2.2
theorem k_L_139 : xV RL RX11 139 yX11_sound cX11_sound 4 (some .int) 3 := ⟨⟨m_1320, m_1321, m_1322, m_130, m_1323⟩, rfl, by decide, by decide, by decide +kernel⟩
theorem gdL_law_1039 : decode cL_law 1039 = .ok (.pop, 1) ∧ decode cL_law 1040 = .ok (.aload_n 2, 1) ∧ decode cL_law 1041 = .ok (.aload_n 0, 1) ∧ decode cL_law 1042 = .ok (.iload_n 3, 1) ∧ decode cL_law 1043 = .ok (.iconst 1, 1) ∧ decode cL_law 1044 = .ok (.iadd, 1) ∧ decode cL_law 1045 = .ok (.iaload, 1) ∧ decode cL_law 1046 = .ok (.aload_n 0, 1) ∧ decode cL_law 1047 = .ok (.iload_n 3, 1) ∧ decode cL_law 1048 = .ok (.iconst 2, 1) ∧ decode cL_law 1049 = .ok (.iadd, 1) ∧ decode cL_law 1050 = .ok (.iaload, 1) := by decide +kernel
theorem dL_law_1039 : decode cL_law 1039 = .ok (.pop, 1) := gdL_law_1039.1
theorem dL_law_1040 : decode cL_law 1040 = .ok (.aload_n 2, 1) := gdL_law_1039.2.1
theorem dL_law_1041 : decode cL_law 1041 = .ok (.aload_n 0, 1) := gdL_law_1039.2.2.1
theorem dL_law_1042 : decode cL_law 1042 = .ok (.iload_n 3, 1) := gdL_law_1039.2.2.2.1
theorem dL_law_1043 : decode cL_law 1043 = .ok (.iconst 1, 1) := gdL_law_1039.2.2.2.2.1
theorem dL_law_1044 : decode cL_law 1044 = .ok (.iadd, 1) := gdL_law_1039.2.2.2.2.2.1
theorem dL_law_1045 : decode cL_law 1045 = .ok (.iaload, 1) := gdL_law_1039.2.2.2.2.2.2.1
theorem dL_law_1046 : decode cL_law 1046 = .ok (.aload_n 0, 1) := gdL_law_1039.2.2.2.2.2.2.2.1
theorem dL_law_1047 : decode cL_law 1047 = .ok (.iload_n 3, 1) := gdL_law_1039.2.2.2.2.2.2.2.2.1
theorem dL_law_1048 : decode cL_law 1048 = .ok (.iconst 2, 1) := gdL_law_1039.2.2.2.2.2.2.2.2.2.1
theorem dL_law_1049 : decode cL_law 1049 = .ok (.iadd, 1) := gdL_law_1039.2.2.2.2.2.2.2.2.2.2.1
theorem dL_law_1050 : decode cL_law 1050 = .ok (.iaload, 1) := gdL_law_1039.2.2.2.2.2.2.2.2.2.2.2
theorem gdL_law_1051 : decode cL_law 1051 = .ok (.aload_n 0, 1) ∧ decode cL_law 1052 = .ok (.iload_n 3, 1) ∧ decode cL_law 1053 = .ok (.iconst 3, 1) ∧ decode cL_law 1054 = .ok (.iadd, 1) ∧ decode cL_law 1055 = .ok (.iaload, 1) ∧ decode cL_law 1056 = .ok (.invokevirtual 142, 3) := by decide +kernel
theorem dL_law_1051 : decode cL_law 1051 = .ok (.aload_n 0, 1) := gdL_law_1051.1
theorem dL_law_1052 : decode cL_law 1052 = .ok (.iload_n 3, 1) := gdL_law_1051.2.1
theorem dL_law_1053 : decode cL_law 1053 = .ok (.iconst 3, 1) := gdL_law_1051.2.2.1
theorem dL_law_1054 : decode cL_law 1054 = .ok (.iadd, 1) := gdL_law_1051.2.2.2.1
theorem dL_law_1055 : decode cL_law 1055 = .ok (.iaload, 1) := gdL_law_1051.2.2.2.2.1
theorem dL_law_1056 : decode cL_law 1056 = .ok (.invokevirtual 142, 3) := gdL_law_1051.2.2.2.2.2
theorem k_L_142 : xV RL RX12 142 yX12_sound cX12_sound 4 (some .int) 3 := ⟨⟨m_2108, m_2109, m_2110, m_146, m_2111⟩, rfl, by decide, by decide, by decide +kernel⟩
theorem dL_law_1059 : decode cL_law 1059 = .ok (.pop, 1) := by decide +kernel
theorem dL_law_1060 : decode cL_law 1060 = .ok (.goto 184, 3) := by decide +kernel
set_option maxHeartbeats 4000000 in
set_option maxRecDepth 100000 in
theorem lc_sound {p : Program} {e : Env} {s : State} {m : MethodId} {below : List Frame} {meth : Method} {c : Code} (l : Launch) {D : va_G} {cy : Nat → ClassId} {A : Nat → Prop} {b L : Nat} {xs : Nat → Int32} (hL : L ≤ 3072) (C : lwC p s m meth c b L xs D cy A) {adK adV : Nat → Nat} (hE : EV adK adV A s) (x0 m0 : Nat) {i : Nat} (hi : i + 6 ≤ L) (hk : lwW p l e s m below meth c b D cy A x0 m0 i 1244) : lwW p l e s m below meth c b D cy A x0 m0 i 1020 := by
  obtain ⟨hx, hb, hr, hml, hown, hg, hlocks, hX, hbl, hK, hA, hAr, hbA⟩ := C
  intro u v H locs ls hu hv hT hP hD hS hl
  refine lv_aload_n hx hb dL_law_1020 rfl (lv_at hl 2 rfl) ?_
  refine lv_aload_n hx hb dL_law_1021 rfl (lv_at hl 3 rfl) ?_
  refine lv_iload_n hx hb dL_law_1022 rfl (lv_at hl 0 rfl) ?_
  refine lv_iconst (v := 1) hx hb dL_law_1023 (by decide) ?_
  refine lv_iadd hx hb dL_law_1024 ?_
  refine lv_topi (fun y_1 hy_1 => ?_)
  obtain rfl : y_1 = nI (i + 1) := hy_1.trans (nI_add i 1)
  refine va_sld hx hb hX hbl hbA hS (vp_in_nI (by omega) (by omega)) dL_law_1025 ?_
  refine lv_aload_n hx hb dL_law_1026 rfl (lv_at hl 3 rfl) ?_
  refine lv_iload_n hx hb dL_law_1027 rfl (lv_at hl 0 rfl) ?_
  refine lv_iconst (v := 2) hx hb dL_law_1028 (by decide) ?_
  refine lv_iadd hx hb dL_law_1029 ?_
  refine lv_topi (fun y_2 hy_2 => ?_)
  obtain rfl : y_2 = nI (i + 2) := hy_2.trans (nI_add i 2)
  refine va_sld hx hb hX hbl hbA hS (vp_in_nI (by omega) (by omega)) dL_law_1030 ?_
  refine lv_aload_n hx hb dL_law_1031 rfl (lv_at hl 3 rfl) ?_
  refine lv_iload_n hx hb dL_law_1032 rfl (lv_at hl 0 rfl) ?_
  refine lv_iconst (v := 3) hx hb dL_law_1033 (by decide) ?_
  refine lv_iadd hx hb dL_law_1034 ?_
  refine lv_topi (fun y_3 hy_3 => ?_)
  obtain rfl : y_3 = nI (i + 3) := hy_3.trans (nI_add i 3)
  refine va_sld hx hb hX hbl hbA hS (vp_in_nI (by omega) (by omega)) dL_law_1035 ?_
  refine x_callVi (q := (RX11, TX11, 14)) (ci := 11) (q0 := 0) (wr := IM cy m0 v) (rest := []) ⟨hx, hb, hml, hown, hg, hl.1⟩ k_L_139 (tx_sound l D cy x0 u hu (xs (nI (i + 1) : Int32).toNatClampNeg) (xs (nI (i + 2) : Int32).toNatClampNeg) (xs (nI (i + 3) : Int32).toNatClampNeg)) E0_blind hK hP hD hS hA [0, 1, 2, 3, 4, 5, 6, 7, 8, 9, 10, 11, 12, 13, 14, 15, 16, 17, 18, 19, 20, 21, 22, 23, 24, 25, 26, 27, 28, 29, 30, 31, 32, 33, 34, 35, 36, 37, 38, 39, 40, 41, 42, 43, 44, 45, 46, 47, 48, 49, 50, 51, 52, 53, 54, 55, 56, 57, 58, 59, 60, 61, 62, 63, 64, 65, 66, 67, 68, 69, 70, 71, 72, 73, 74, 75, 76, 77, 78, 79, 80, 81, 82, 83, 84, 85, 86, 87, 88, 89, 90, 91, 92, 93] [94, 95, 96, 97, 98, 99, 100, 101, 102, 103, 104, 105, 106, 107, 108, 109, 110, 111, 112, 113, 114, 115, 116, 117, 118, 119, 120, 121, 122, 123, 124, 125, 126, 127, 128, 129, 130, 131, 132, 133, 134, 135, 136, 137, 138, 139, 140, 141] (cutX cy x0 m0 u v) rfl rfl (fun _ _ _ => trivial) dL_law_1036 rfl rfl (Nat.le_of_ble_eq_true rfl) ⟨Nat.le_of_ble_eq_true rfl, Nat.le_of_ble_eq_true rfl⟩ ⟨Nat.le_of_ble_eq_true rfl, Nat.le_of_ble_eq_true rfl⟩ (fun r1 u2 H locs hw1 hP9 hD9 hS9 => ?_)
  clear hP hD hS
  have hP := hP9
  have hD := hD9
  have hS := hS9
  clear hP9 hD9 hS9
  refine W.widen (k := 142) (n := 14416) (Nat.le_of_ble_eq_true rfl) (Nat.le_of_ble_eq_true rfl) ?_
  refine lv_pop hx hb dL_law_1039 rfl ?_
  refine lv_aload_n hx hb dL_law_1040 rfl (lv_at hl 1 rfl) ?_
  refine lv_aload_n hx hb dL_law_1041 rfl (lv_at hl 3 rfl) ?_
  refine lv_iload_n hx hb dL_law_1042 rfl (lv_at hl 0 rfl) ?_
  refine lv_iconst (v := 1) hx hb dL_law_1043 (by decide) ?_
  refine lv_iadd hx hb dL_law_1044 ?_
  refine lv_topi (fun y_4 hy_4 => ?_)
  obtain rfl : y_4 = nI (i + 1) := hy_4.trans (nI_add i 1)
  refine va_sld hx hb hX hbl hbA hS (vp_in_nI (by omega) (by omega)) dL_law_1045 ?_
  refine lv_aload_n hx hb dL_law_1046 rfl (lv_at hl 3 rfl) ?_
  refine lv_iload_n hx hb dL_law_1047 rfl (lv_at hl 0 rfl) ?_
  refine lv_iconst (v := 2) hx hb dL_law_1048 (by decide) ?_
  refine lv_iadd hx hb dL_law_1049 ?_
  refine lv_topi (fun y_5 hy_5 => ?_)
  obtain rfl : y_5 = nI (i + 2) := hy_5.trans (nI_add i 2)
  refine va_sld hx hb hX hbl hbA hS (vp_in_nI (by omega) (by omega)) dL_law_1050 ?_
  refine lv_aload_n hx hb dL_law_1051 rfl (lv_at hl 3 rfl) ?_
  refine lv_iload_n hx hb dL_law_1052 rfl (lv_at hl 0 rfl) ?_
  refine lv_iconst (v := 3) hx hb dL_law_1053 (by decide) ?_
  refine lv_iadd hx hb dL_law_1054 ?_
  refine lv_topi (fun y_6 hy_6 => ?_)
  obtain rfl : y_6 = nI (i + 3) := hy_6.trans (nI_add i 3)
  refine va_sld hx hb hX hbl hbA hS (vp_in_nI (by omega) (by omega)) dL_law_1055 ?_
  refine x_callVi (q := (RX12, TX12, 89)) (ci := 12) (q0 := 0) (wr := IX cy x0 u2) (rest := []) ⟨hx, hb, hml, hown, hg, hl.1⟩ k_L_142 (tm_sound l D cy m0 v hv (xs (nI (i + 1) : Int32).toNatClampNeg) (xs (nI (i + 2) : Int32).toNatClampNeg) (xs (nI (i + 3) : Int32).toNatClampNeg)) E0_blind hK hP hD hS hA [0, 1, 2, 3, 4, 5, 6, 7, 8, 9, 10, 11, 12, 13, 14, 15, 16, 17, 18, 19, 20, 21, 22, 23, 24, 25, 26, 27, 28, 29, 30, 31, 32, 33, 34, 35, 36, 37, 38, 39, 40, 41, 42, 43, 44, 45, 46, 47] [48, 49, 50, 51, 52, 53, 54, 55, 56, 57, 58, 59, 60, 61, 62, 63, 64, 65, 66, 67, 68, 69, 70, 71, 72, 73, 74, 75, 76, 77, 78, 79, 80, 81, 82, 83, 84, 85, 86, 87, 88, 89, 90, 91, 92, 93, 94, 95, 96, 97, 98, 99, 100, 101, 102, 103, 104, 105, 106, 107, 108, 109, 110, 111, 112, 113, 114, 115, 116, 117, 118, 119, 120, 121, 122, 123, 124, 125, 126, 127, 128, 129, 130, 131, 132, 133, 134, 135, 136, 137, 138, 139, 140, 141] (cutM cy x0 m0 u2 v) rfl rfl (fun _ _ _ => trivial) dL_law_1056 rfl rfl (Nat.le_of_ble_eq_true rfl) ⟨Nat.le_of_ble_eq_true rfl, Nat.le_of_ble_eq_true rfl⟩ ⟨Nat.le_of_ble_eq_true rfl, Nat.le_of_ble_eq_true rfl⟩ (fun r2 v2 H locs hw2 hP9 hD9 hS9 => ?_)
  clear hP hD hS
  have hP := hP9
  have hD := hD9
  have hS := hS9
  clear hP9 hD9 hS9
  refine W.widen (k := 142) (n := 14416) (Nat.le_of_ble_eq_true rfl) (Nat.le_of_ble_eq_true rfl) ?_
  refine lv_pop hx hb dL_law_1059 rfl ?_
  refine lv_goto (tgt := 1244) hx hb dL_law_1060 (by decide) ?_
  exact hk u2 v2 H locs ls hw1.1 hw2.1 ⟨(sm_d hT.1 hw1.2.1 hw2.2.1), RH_eq hT.2.1 hw1.2.2.1 hw2.2.2.1, RS_eq (so_same hT.2.1.1.2.1 hT.1.2.1 hT.2.2.1 hw1.2.2.2.1 hw2.2.2.2.1).2 hw1.2.1.2.1 rfl rfl, RMt_of hw1.2.2.2.2.2 hw2.2.2.2.2.2 hT.2.2.2⟩ hP hD hS hl
theorem gdL_law_1063 : decode cL_law 1063 = .ok (.aload_n 1, 1) ∧ decode cL_law 1064 = .ok (.aload_n 0, 1) ∧ decode cL_law 1065 = .ok (.iload_n 3, 1) ∧ decode cL_law 1066 = .ok (.iconst 1, 1) ∧ decode cL_law 1067 = .ok (.iadd, 1) ∧ decode cL_law 1068 = .ok (.iaload, 1) ∧ decode cL_law 1069 = .ok (.invokevirtual 143, 3) := by decide +kernel
theorem dL_law_1063 : decode cL_law 1063 = .ok (.aload_n 1, 1) := gdL_law_1063.1
theorem dL_law_1064 : decode cL_law 1064 = .ok (.aload_n 0, 1) := gdL_law_1063.2.1
theorem dL_law_1065 : decode cL_law 1065 = .ok (.iload_n 3, 1) := gdL_law_1063.2.2.1
theorem dL_law_1066 : decode cL_law 1066 = .ok (.iconst 1, 1) := gdL_law_1063.2.2.2.1
theorem dL_law_1067 : decode cL_law 1067 = .ok (.iadd, 1) := gdL_law_1063.2.2.2.2.1
theorem dL_law_1068 : decode cL_law 1068 = .ok (.iaload, 1) := gdL_law_1063.2.2.2.2.2.1
theorem dL_law_1069 : decode cL_law 1069 = .ok (.invokevirtual 143, 3) := gdL_law_1063.2.2.2.2.2.2
theorem k_L_143 : xV RL RX11 143 yX11_untell cX11_untell 2 (some .boolean) 1 := ⟨⟨m_1328, m_1329, m_1330, m_130, m_1331⟩, rfl, by decide, by decide, by decide +kernel⟩
theorem gdL_law_1072 : decode cL_law 1072 = .ok (.pop, 1) ∧ decode cL_law 1073 = .ok (.aload_n 2, 1) ∧ decode cL_law 1074 = .ok (.aload_n 0, 1) ∧ decode cL_law 1075 = .ok (.iload_n 3, 1) ∧ decode cL_law 1076 = .ok (.iconst 1, 1) ∧ decode cL_law 1077 = .ok (.iadd, 1) ∧ decode cL_law 1078 = .ok (.iaload, 1) ∧ decode cL_law 1079 = .ok (.invokevirtual 147, 3) := by decide +kernel
theorem dL_law_1072 : decode cL_law 1072 = .ok (.pop, 1) := gdL_law_1072.1
theorem dL_law_1073 : decode cL_law 1073 = .ok (.aload_n 2, 1) := gdL_law_1072.2.1
theorem dL_law_1074 : decode cL_law 1074 = .ok (.aload_n 0, 1) := gdL_law_1072.2.2.1
theorem dL_law_1075 : decode cL_law 1075 = .ok (.iload_n 3, 1) := gdL_law_1072.2.2.2.1
theorem dL_law_1076 : decode cL_law 1076 = .ok (.iconst 1, 1) := gdL_law_1072.2.2.2.2.1
theorem dL_law_1077 : decode cL_law 1077 = .ok (.iadd, 1) := gdL_law_1072.2.2.2.2.2.1
theorem dL_law_1078 : decode cL_law 1078 = .ok (.iaload, 1) := gdL_law_1072.2.2.2.2.2.2.1
theorem dL_law_1079 : decode cL_law 1079 = .ok (.invokevirtual 147, 3) := gdL_law_1072.2.2.2.2.2.2.2
theorem k_L_147 : xV RL RX12 147 yX12_untell cX12_untell 2 (some .boolean) 1 := ⟨⟨m_2112, m_2113, m_2114, m_146, m_2115⟩, rfl, by decide, by decide, by decide +kernel⟩
theorem dL_law_1082 : decode cL_law 1082 = .ok (.pop, 1) := by decide +kernel
theorem dL_law_1083 : decode cL_law 1083 = .ok (.goto 161, 3) := by decide +kernel
set_option maxHeartbeats 4000000 in
set_option maxRecDepth 100000 in
theorem lc_untell {p : Program} {e : Env} {s : State} {m : MethodId} {below : List Frame} {meth : Method} {c : Code} (l : Launch) {D : va_G} {cy : Nat → ClassId} {A : Nat → Prop} {b L : Nat} {xs : Nat → Int32} (hL : L ≤ 3072) (C : lwC p s m meth c b L xs D cy A) {adK adV : Nat → Nat} (hE : EV adK adV A s) (x0 m0 : Nat) {i : Nat} (hi : i + 6 ≤ L) (hk : lwW p l e s m below meth c b D cy A x0 m0 i 1244) : lwW p l e s m below meth c b D cy A x0 m0 i 1063 := by
  obtain ⟨hx, hb, hr, hml, hown, hg, hlocks, hX, hbl, hK, hA, hAr, hbA⟩ := C
  intro u v H locs ls hu hv hT hP hD hS hl
  refine lv_aload_n hx hb dL_law_1063 rfl (lv_at hl 2 rfl) ?_
  refine lv_aload_n hx hb dL_law_1064 rfl (lv_at hl 3 rfl) ?_
  refine lv_iload_n hx hb dL_law_1065 rfl (lv_at hl 0 rfl) ?_
  refine lv_iconst (v := 1) hx hb dL_law_1066 (by decide) ?_
  refine lv_iadd hx hb dL_law_1067 ?_
  refine lv_topi (fun y_1 hy_1 => ?_)
  obtain rfl : y_1 = nI (i + 1) := hy_1.trans (nI_add i 1)
  refine va_sld hx hb hX hbl hbA hS (vp_in_nI (by omega) (by omega)) dL_law_1068 ?_
  refine x_callVi (q := (RX11, TX11, 14)) (ci := 11) (q0 := 0) (wr := IM cy m0 v) (rest := []) ⟨hx, hb, hml, hown, hg, hl.1⟩ k_L_143 (tx_untell l D cy x0 u hu (xs (nI (i + 1) : Int32).toNatClampNeg)) E0_blind hK hP hD hS hA [0, 1, 2, 3, 4, 5, 6, 7, 8, 9, 10, 11, 12, 13, 14, 15, 16, 17, 18, 19, 20, 21, 22, 23, 24, 25, 26, 27, 28, 29, 30, 31, 32, 33, 34, 35, 36, 37, 38, 39, 40, 41, 42, 43, 44, 45, 46, 47, 48, 49, 50, 51, 52, 53, 54, 55, 56, 57, 58, 59, 60, 61, 62, 63, 64, 65, 66, 67, 68, 69, 70, 71, 72, 73, 74, 75, 76, 77, 78, 79, 80, 81, 82, 83, 84, 85, 86, 87, 88, 89, 90, 91, 92, 93] [94, 95, 96, 97, 98, 99, 100, 101, 102, 103, 104, 105, 106, 107, 108, 109, 110, 111, 112, 113, 114, 115, 116, 117, 118, 119, 120, 121, 122, 123, 124, 125, 126, 127, 128, 129, 130, 131, 132, 133, 134, 135, 136, 137, 138, 139, 140, 141] (cutX cy x0 m0 u v) rfl rfl (fun _ _ _ => trivial) dL_law_1069 rfl rfl (Nat.le_of_ble_eq_true rfl) ⟨Nat.le_of_ble_eq_true rfl, Nat.le_of_ble_eq_true rfl⟩ ⟨Nat.le_of_ble_eq_true rfl, Nat.le_of_ble_eq_true rfl⟩ (fun r1 u2 H locs hw1 hP9 hD9 hS9 => ?_)
  clear hP hD hS
  have hP := hP9
  have hD := hD9
  have hS := hS9
  clear hP9 hD9 hS9
  refine W.widen (k := 142) (n := 14416) (Nat.le_of_ble_eq_true rfl) (Nat.le_of_ble_eq_true rfl) ?_
  refine lv_pop hx hb dL_law_1072 rfl ?_
  refine lv_aload_n hx hb dL_law_1073 rfl (lv_at hl 1 rfl) ?_
  refine lv_aload_n hx hb dL_law_1074 rfl (lv_at hl 3 rfl) ?_
  refine lv_iload_n hx hb dL_law_1075 rfl (lv_at hl 0 rfl) ?_
  refine lv_iconst (v := 1) hx hb dL_law_1076 (by decide) ?_
  refine lv_iadd hx hb dL_law_1077 ?_
  refine lv_topi (fun y_2 hy_2 => ?_)
  obtain rfl : y_2 = nI (i + 1) := hy_2.trans (nI_add i 1)
  refine va_sld hx hb hX hbl hbA hS (vp_in_nI (by omega) (by omega)) dL_law_1078 ?_
  refine x_callVi (q := (RX12, TX12, 89)) (ci := 12) (q0 := 0) (wr := IX cy x0 u2) (rest := []) ⟨hx, hb, hml, hown, hg, hl.1⟩ k_L_147 (tm_untell l D cy m0 v hv (xs (nI (i + 1) : Int32).toNatClampNeg)) E0_blind hK hP hD hS hA [0, 1, 2, 3, 4, 5, 6, 7, 8, 9, 10, 11, 12, 13, 14, 15, 16, 17, 18, 19, 20, 21, 22, 23, 24, 25, 26, 27, 28, 29, 30, 31, 32, 33, 34, 35, 36, 37, 38, 39, 40, 41, 42, 43, 44, 45, 46, 47] [48, 49, 50, 51, 52, 53, 54, 55, 56, 57, 58, 59, 60, 61, 62, 63, 64, 65, 66, 67, 68, 69, 70, 71, 72, 73, 74, 75, 76, 77, 78, 79, 80, 81, 82, 83, 84, 85, 86, 87, 88, 89, 90, 91, 92, 93, 94, 95, 96, 97, 98, 99, 100, 101, 102, 103, 104, 105, 106, 107, 108, 109, 110, 111, 112, 113, 114, 115, 116, 117, 118, 119, 120, 121, 122, 123, 124, 125, 126, 127, 128, 129, 130, 131, 132, 133, 134, 135, 136, 137, 138, 139, 140, 141] (cutM cy x0 m0 u2 v) rfl rfl (fun _ _ _ => trivial) dL_law_1079 rfl rfl (Nat.le_of_ble_eq_true rfl) ⟨Nat.le_of_ble_eq_true rfl, Nat.le_of_ble_eq_true rfl⟩ ⟨Nat.le_of_ble_eq_true rfl, Nat.le_of_ble_eq_true rfl⟩ (fun r2 v2 H locs hw2 hP9 hD9 hS9 => ?_)
  clear hP hD hS
  have hP := hP9
  have hD := hD9
  have hS := hS9
  clear hP9 hD9 hS9
  refine W.widen (k := 142) (n := 14416) (Nat.le_of_ble_eq_true rfl) (Nat.le_of_ble_eq_true rfl) ?_
  refine lv_pop hx hb dL_law_1082 rfl ?_
  refine lv_goto (tgt := 1244) hx hb dL_law_1083 (by decide) ?_
  exact hk u2 v2 H locs ls hw1.1 hw2.1 ⟨(sm_d hT.1 hw1.2.1 hw2.2.1), RH_eq hT.2.1 hw1.2.2.1 hw2.2.2.1, RS_eq (un_same hT.1.2.1 hT.2.2.1 hw1.2.2.2.1.1 hw2.2.2.2.1.1).2 hw1.2.1.2.1 hw1.2.2.2.1.2 hw2.2.2.2.1.2, RMt_of hw1.2.2.2.2.2 hw2.2.2.2.2.2 hT.2.2.2⟩ hP hD hS hl
theorem gdL_law_1086 : decode cL_law 1086 = .ok (.aload_n 1, 1) ∧ decode cL_law 1087 = .ok (.aload_n 0, 1) ∧ decode cL_law 1088 = .ok (.iload_n 3, 1) ∧ decode cL_law 1089 = .ok (.iconst 1, 1) ∧ decode cL_law 1090 = .ok (.iadd, 1) ∧ decode cL_law 1091 = .ok (.iaload, 1) ∧ decode cL_law 1092 = .ok (.invokevirtual 148, 3) := by decide +kernel
theorem dL_law_1086 : decode cL_law 1086 = .ok (.aload_n 1, 1) := gdL_law_1086.1
theorem dL_law_1087 : decode cL_law 1087 = .ok (.aload_n 0, 1) := gdL_law_1086.2.1
theorem dL_law_1088 : decode cL_law 1088 = .ok (.iload_n 3, 1) := gdL_law_1086.2.2.1
theorem dL_law_1089 : decode cL_law 1089 = .ok (.iconst 1, 1) := gdL_law_1086.2.2.2.1
theorem dL_law_1090 : decode cL_law 1090 = .ok (.iadd, 1) := gdL_law_1086.2.2.2.2.1
theorem dL_law_1091 : decode cL_law 1091 = .ok (.iaload, 1) := gdL_law_1086.2.2.2.2.2.1
theorem dL_law_1092 : decode cL_law 1092 = .ok (.invokevirtual 148, 3) := gdL_law_1086.2.2.2.2.2.2
theorem k_L_148 : xV RL RX11 148 yX11_later cX11_later 2 (some .int) 1 := ⟨⟨m_1336, m_1337, m_1338, m_130, m_1339⟩, rfl, by decide, by decide, by decide +kernel⟩
theorem gdL_law_1095 : decode cL_law 1095 = .ok (.pop, 1) ∧ decode cL_law 1096 = .ok (.aload_n 2, 1) ∧ decode cL_law 1097 = .ok (.aload_n 0, 1) ∧ decode cL_law 1098 = .ok (.iload_n 3, 1) ∧ decode cL_law 1099 = .ok (.iconst 1, 1) ∧ decode cL_law 1100 = .ok (.iadd, 1) ∧ decode cL_law 1101 = .ok (.iaload, 1) ∧ decode cL_law 1102 = .ok (.invokevirtual 151, 3) := by decide +kernel
theorem dL_law_1095 : decode cL_law 1095 = .ok (.pop, 1) := gdL_law_1095.1
theorem dL_law_1096 : decode cL_law 1096 = .ok (.aload_n 2, 1) := gdL_law_1095.2.1
theorem dL_law_1097 : decode cL_law 1097 = .ok (.aload_n 0, 1) := gdL_law_1095.2.2.1
theorem dL_law_1098 : decode cL_law 1098 = .ok (.iload_n 3, 1) := gdL_law_1095.2.2.2.1
theorem dL_law_1099 : decode cL_law 1099 = .ok (.iconst 1, 1) := gdL_law_1095.2.2.2.2.1
theorem dL_law_1100 : decode cL_law 1100 = .ok (.iadd, 1) := gdL_law_1095.2.2.2.2.2.1
theorem dL_law_1101 : decode cL_law 1101 = .ok (.iaload, 1) := gdL_law_1095.2.2.2.2.2.2.1
theorem dL_law_1102 : decode cL_law 1102 = .ok (.invokevirtual 151, 3) := gdL_law_1095.2.2.2.2.2.2.2
theorem k_L_151 : xV RL RX12 151 yX12_later cX12_later 2 (some .int) 1 := ⟨⟨m_2116, m_2117, m_2118, m_146, m_2119⟩, rfl, by decide, by decide, by decide +kernel⟩
theorem dL_law_1105 : decode cL_law 1105 = .ok (.pop, 1) := by decide +kernel
theorem dL_law_1106 : decode cL_law 1106 = .ok (.goto 138, 3) := by decide +kernel
set_option maxHeartbeats 4000000 in
set_option maxRecDepth 100000 in
theorem lc_later {p : Program} {e : Env} {s : State} {m : MethodId} {below : List Frame} {meth : Method} {c : Code} (l : Launch) {D : va_G} {cy : Nat → ClassId} {A : Nat → Prop} {b L : Nat} {xs : Nat → Int32} (hL : L ≤ 3072) (C : lwC p s m meth c b L xs D cy A) {adK adV : Nat → Nat} (hE : EV adK adV A s) (x0 m0 : Nat) {i : Nat} (hi : i + 6 ≤ L) (hk : lwW p l e s m below meth c b D cy A x0 m0 i 1244) : lwW p l e s m below meth c b D cy A x0 m0 i 1086 := by
  obtain ⟨hx, hb, hr, hml, hown, hg, hlocks, hX, hbl, hK, hA, hAr, hbA⟩ := C
  intro u v H locs ls hu hv hT hP hD hS hl
  refine lv_aload_n hx hb dL_law_1086 rfl (lv_at hl 2 rfl) ?_
  refine lv_aload_n hx hb dL_law_1087 rfl (lv_at hl 3 rfl) ?_
  refine lv_iload_n hx hb dL_law_1088 rfl (lv_at hl 0 rfl) ?_
  refine lv_iconst (v := 1) hx hb dL_law_1089 (by decide) ?_
  refine lv_iadd hx hb dL_law_1090 ?_
  refine lv_topi (fun y_1 hy_1 => ?_)
  obtain rfl : y_1 = nI (i + 1) := hy_1.trans (nI_add i 1)
  refine va_sld hx hb hX hbl hbA hS (vp_in_nI (by omega) (by omega)) dL_law_1091 ?_
  refine x_callVi (q := (RX11, TX11, 14)) (ci := 11) (q0 := 0) (wr := IM cy m0 v) (rest := []) ⟨hx, hb, hml, hown, hg, hl.1⟩ k_L_148 (tx_later l D cy x0 u hu (xs (nI (i + 1) : Int32).toNatClampNeg)) E0_blind hK hP hD hS hA [0, 1, 2, 3, 4, 5, 6, 7, 8, 9, 10, 11, 12, 13, 14, 15, 16, 17, 18, 19, 20, 21, 22, 23, 24, 25, 26, 27, 28, 29, 30, 31, 32, 33, 34, 35, 36, 37, 38, 39, 40, 41, 42, 43, 44, 45, 46, 47, 48, 49, 50, 51, 52, 53, 54, 55, 56, 57, 58, 59, 60, 61, 62, 63, 64, 65, 66, 67, 68, 69, 70, 71, 72, 73, 74, 75, 76, 77, 78, 79, 80, 81, 82, 83, 84, 85, 86, 87, 88, 89, 90, 91, 92, 93] [94, 95, 96, 97, 98, 99, 100, 101, 102, 103, 104, 105, 106, 107, 108, 109, 110, 111, 112, 113, 114, 115, 116, 117, 118, 119, 120, 121, 122, 123, 124, 125, 126, 127, 128, 129, 130, 131, 132, 133, 134, 135, 136, 137, 138, 139, 140, 141] (cutX cy x0 m0 u v) rfl rfl (fun _ _ _ => trivial) dL_law_1092 rfl rfl (Nat.le_of_ble_eq_true rfl) ⟨Nat.le_of_ble_eq_true rfl, Nat.le_of_ble_eq_true rfl⟩ ⟨Nat.le_of_ble_eq_true rfl, Nat.le_of_ble_eq_true rfl⟩ (fun r1 u2 H locs hw1 hP9 hD9 hS9 => ?_)
  clear hP hD hS
  have hP := hP9
  have hD := hD9
  have hS := hS9
  clear hP9 hD9 hS9
  refine W.widen (k := 142) (n := 14416) (Nat.le_of_ble_eq_true rfl) (Nat.le_of_ble_eq_true rfl) ?_
  refine lv_pop hx hb dL_law_1095 rfl ?_
  refine lv_aload_n hx hb dL_law_1096 rfl (lv_at hl 1 rfl) ?_
  refine lv_aload_n hx hb dL_law_1097 rfl (lv_at hl 3 rfl) ?_
  refine lv_iload_n hx hb dL_law_1098 rfl (lv_at hl 0 rfl) ?_
  refine lv_iconst (v := 1) hx hb dL_law_1099 (by decide) ?_
  refine lv_iadd hx hb dL_law_1100 ?_
  refine lv_topi (fun y_2 hy_2 => ?_)
  obtain rfl : y_2 = nI (i + 1) := hy_2.trans (nI_add i 1)
  refine va_sld hx hb hX hbl hbA hS (vp_in_nI (by omega) (by omega)) dL_law_1101 ?_
  refine x_callVi (q := (RX12, TX12, 89)) (ci := 12) (q0 := 0) (wr := IX cy x0 u2) (rest := []) ⟨hx, hb, hml, hown, hg, hl.1⟩ k_L_151 (tm_later l D cy m0 v hv (xs (nI (i + 1) : Int32).toNatClampNeg)) E0_blind hK hP hD hS hA [0, 1, 2, 3, 4, 5, 6, 7, 8, 9, 10, 11, 12, 13, 14, 15, 16, 17, 18, 19, 20, 21, 22, 23, 24, 25, 26, 27, 28, 29, 30, 31, 32, 33, 34, 35, 36, 37, 38, 39, 40, 41, 42, 43, 44, 45, 46, 47] [48, 49, 50, 51, 52, 53, 54, 55, 56, 57, 58, 59, 60, 61, 62, 63, 64, 65, 66, 67, 68, 69, 70, 71, 72, 73, 74, 75, 76, 77, 78, 79, 80, 81, 82, 83, 84, 85, 86, 87, 88, 89, 90, 91, 92, 93, 94, 95, 96, 97, 98, 99, 100, 101, 102, 103, 104, 105, 106, 107, 108, 109, 110, 111, 112, 113, 114, 115, 116, 117, 118, 119, 120, 121, 122, 123, 124, 125, 126, 127, 128, 129, 130, 131, 132, 133, 134, 135, 136, 137, 138, 139, 140, 141] (cutM cy x0 m0 u2 v) rfl rfl (fun _ _ _ => trivial) dL_law_1102 rfl rfl (Nat.le_of_ble_eq_true rfl) ⟨Nat.le_of_ble_eq_true rfl, Nat.le_of_ble_eq_true rfl⟩ ⟨Nat.le_of_ble_eq_true rfl, Nat.le_of_ble_eq_true rfl⟩ (fun r2 v2 H locs hw2 hP9 hD9 hS9 => ?_)
  clear hP hD hS
  have hP := hP9
  have hD := hD9
  have hS := hS9
  clear hP9 hD9 hS9
  refine W.widen (k := 142) (n := 14416) (Nat.le_of_ble_eq_true rfl) (Nat.le_of_ble_eq_true rfl) ?_
  refine lv_pop hx hb dL_law_1105 rfl ?_
  refine lv_goto (tgt := 1244) hx hb dL_law_1106 (by decide) ?_
  exact hk u2 v2 H locs ls hw1.1 hw2.1 ⟨(sm_later hT.1 hw1.2.1 hw2.2.1).2, RH_eq hT.2.1 hw1.2.2.1 hw2.2.2.1, RS_eq (later_RS hT.2.2.1 hw1.2.1.2.1) rfl hw1.2.2.2.1 hw2.2.2.2.1, RMt_of hw1.2.2.2.2.2 hw2.2.2.2.2.2 hT.2.2.2⟩ hP hD hS hl
theorem gdL_law_1109 : decode cL_law 1109 = .ok (.aload_n 1, 1) ∧ decode cL_law 1110 = .ok (.aload_n 0, 1) ∧ decode cL_law 1111 = .ok (.iload_n 3, 1) ∧ decode cL_law 1112 = .ok (.iconst 1, 1) ∧ decode cL_law 1113 = .ok (.iadd, 1) ∧ decode cL_law 1114 = .ok (.iaload, 1) ∧ decode cL_law 1115 = .ok (.aload_n 0, 1) ∧ decode cL_law 1116 = .ok (.iload_n 3, 1) ∧ decode cL_law 1117 = .ok (.iconst 2, 1) ∧ decode cL_law 1118 = .ok (.iadd, 1) ∧ decode cL_law 1119 = .ok (.iaload, 1) ∧ decode cL_law 1120 = .ok (.invokevirtual 152, 3) := by decide +kernel
theorem dL_law_1109 : decode cL_law 1109 = .ok (.aload_n 1, 1) := gdL_law_1109.1
theorem dL_law_1110 : decode cL_law 1110 = .ok (.aload_n 0, 1) := gdL_law_1109.2.1
theorem dL_law_1111 : decode cL_law 1111 = .ok (.iload_n 3, 1) := gdL_law_1109.2.2.1
theorem dL_law_1112 : decode cL_law 1112 = .ok (.iconst 1, 1) := gdL_law_1109.2.2.2.1
theorem dL_law_1113 : decode cL_law 1113 = .ok (.iadd, 1) := gdL_law_1109.2.2.2.2.1
theorem dL_law_1114 : decode cL_law 1114 = .ok (.iaload, 1) := gdL_law_1109.2.2.2.2.2.1
theorem dL_law_1115 : decode cL_law 1115 = .ok (.aload_n 0, 1) := gdL_law_1109.2.2.2.2.2.2.1
theorem dL_law_1116 : decode cL_law 1116 = .ok (.iload_n 3, 1) := gdL_law_1109.2.2.2.2.2.2.2.1
theorem dL_law_1117 : decode cL_law 1117 = .ok (.iconst 2, 1) := gdL_law_1109.2.2.2.2.2.2.2.2.1
theorem dL_law_1118 : decode cL_law 1118 = .ok (.iadd, 1) := gdL_law_1109.2.2.2.2.2.2.2.2.2.1
theorem dL_law_1119 : decode cL_law 1119 = .ok (.iaload, 1) := gdL_law_1109.2.2.2.2.2.2.2.2.2.2.1
theorem dL_law_1120 : decode cL_law 1120 = .ok (.invokevirtual 152, 3) := gdL_law_1109.2.2.2.2.2.2.2.2.2.2.2
theorem k_L_152 : xV RL RX11 152 yX11_stood cX11_stood 3 (some .int) 2 := ⟨⟨m_1341, m_1342, m_1343, m_130, m_1344⟩, rfl, by decide, by decide, by decide +kernel⟩
theorem gdL_law_1123 : decode cL_law 1123 = .ok (.pop, 1) ∧ decode cL_law 1124 = .ok (.aload_n 2, 1) ∧ decode cL_law 1125 = .ok (.aload_n 0, 1) ∧ decode cL_law 1126 = .ok (.iload_n 3, 1) ∧ decode cL_law 1127 = .ok (.iconst 1, 1) ∧ decode cL_law 1128 = .ok (.iadd, 1) ∧ decode cL_law 1129 = .ok (.iaload, 1) ∧ decode cL_law 1130 = .ok (.aload_n 0, 1) ∧ decode cL_law 1131 = .ok (.iload_n 3, 1) ∧ decode cL_law 1132 = .ok (.iconst 2, 1) ∧ decode cL_law 1133 = .ok (.iadd, 1) ∧ decode cL_law 1134 = .ok (.iaload, 1) := by decide +kernel
theorem dL_law_1123 : decode cL_law 1123 = .ok (.pop, 1) := gdL_law_1123.1
theorem dL_law_1124 : decode cL_law 1124 = .ok (.aload_n 2, 1) := gdL_law_1123.2.1
theorem dL_law_1125 : decode cL_law 1125 = .ok (.aload_n 0, 1) := gdL_law_1123.2.2.1
theorem dL_law_1126 : decode cL_law 1126 = .ok (.iload_n 3, 1) := gdL_law_1123.2.2.2.1
theorem dL_law_1127 : decode cL_law 1127 = .ok (.iconst 1, 1) := gdL_law_1123.2.2.2.2.1
theorem dL_law_1128 : decode cL_law 1128 = .ok (.iadd, 1) := gdL_law_1123.2.2.2.2.2.1
theorem dL_law_1129 : decode cL_law 1129 = .ok (.iaload, 1) := gdL_law_1123.2.2.2.2.2.2.1
theorem dL_law_1130 : decode cL_law 1130 = .ok (.aload_n 0, 1) := gdL_law_1123.2.2.2.2.2.2.2.1
theorem dL_law_1131 : decode cL_law 1131 = .ok (.iload_n 3, 1) := gdL_law_1123.2.2.2.2.2.2.2.2.1
theorem dL_law_1132 : decode cL_law 1132 = .ok (.iconst 2, 1) := gdL_law_1123.2.2.2.2.2.2.2.2.2.1
theorem dL_law_1133 : decode cL_law 1133 = .ok (.iadd, 1) := gdL_law_1123.2.2.2.2.2.2.2.2.2.2.1
theorem dL_law_1134 : decode cL_law 1134 = .ok (.iaload, 1) := gdL_law_1123.2.2.2.2.2.2.2.2.2.2.2
theorem dL_law_1135 : decode cL_law 1135 = .ok (.invokevirtual 155, 3) := by decide +kernel
theorem k_L_155 : xV RL RX12 155 yX12_stood cX12_stood 6 (some .int) 2 := ⟨⟨m_2121, m_2122, m_2123, m_146, m_2124⟩, rfl, by decide, by decide, by decide +kernel⟩
theorem dL_law_1138 : decode cL_law 1138 = .ok (.pop, 1) := by decide +kernel
theorem dL_law_1139 : decode cL_law 1139 = .ok (.goto 105, 3) := by decide +kernel
set_option maxHeartbeats 4000000 in
set_option maxRecDepth 100000 in
theorem lc_stood {p : Program} {e : Env} {s : State} {m : MethodId} {below : List Frame} {meth : Method} {c : Code} (l : Launch) {D : va_G} {cy : Nat → ClassId} {A : Nat → Prop} {b L : Nat} {xs : Nat → Int32} (hL : L ≤ 3072) (C : lwC p s m meth c b L xs D cy A) {adK adV : Nat → Nat} (hE : EV adK adV A s) (x0 m0 : Nat) {i : Nat} (hi : i + 6 ≤ L) (hk : lwW p l e s m below meth c b D cy A x0 m0 i 1244) : lwW p l e s m below meth c b D cy A x0 m0 i 1109 := by
  obtain ⟨hx, hb, hr, hml, hown, hg, hlocks, hX, hbl, hK, hA, hAr, hbA⟩ := C
  intro u v H locs ls hu hv hT hP hD hS hl
  refine lv_aload_n hx hb dL_law_1109 rfl (lv_at hl 2 rfl) ?_
  refine lv_aload_n hx hb dL_law_1110 rfl (lv_at hl 3 rfl) ?_
  refine lv_iload_n hx hb dL_law_1111 rfl (lv_at hl 0 rfl) ?_
  refine lv_iconst (v := 1) hx hb dL_law_1112 (by decide) ?_
  refine lv_iadd hx hb dL_law_1113 ?_
  refine lv_topi (fun y_1 hy_1 => ?_)
  obtain rfl : y_1 = nI (i + 1) := hy_1.trans (nI_add i 1)
  refine va_sld hx hb hX hbl hbA hS (vp_in_nI (by omega) (by omega)) dL_law_1114 ?_
  refine lv_aload_n hx hb dL_law_1115 rfl (lv_at hl 3 rfl) ?_
  refine lv_iload_n hx hb dL_law_1116 rfl (lv_at hl 0 rfl) ?_
  refine lv_iconst (v := 2) hx hb dL_law_1117 (by decide) ?_
  refine lv_iadd hx hb dL_law_1118 ?_
  refine lv_topi (fun y_2 hy_2 => ?_)
  obtain rfl : y_2 = nI (i + 2) := hy_2.trans (nI_add i 2)
  refine va_sld hx hb hX hbl hbA hS (vp_in_nI (by omega) (by omega)) dL_law_1119 ?_
  refine x_callVi (q := (RX11, TX11, 14)) (ci := 11) (q0 := 0) (wr := IM cy m0 v) (rest := []) ⟨hx, hb, hml, hown, hg, hl.1⟩ k_L_152 (tx_stood l D cy x0 u hu (xs (nI (i + 1) : Int32).toNatClampNeg) (xs (nI (i + 2) : Int32).toNatClampNeg)) E0_blind hK hP hD hS hA [0, 1, 2, 3, 4, 5, 6, 7, 8, 9, 10, 11, 12, 13, 14, 15, 16, 17, 18, 19, 20, 21, 22, 23, 24, 25, 26, 27, 28, 29, 30, 31, 32, 33, 34, 35, 36, 37, 38, 39, 40, 41, 42, 43, 44, 45, 46, 47, 48, 49, 50, 51, 52, 53, 54, 55, 56, 57, 58, 59, 60, 61, 62, 63, 64, 65, 66, 67, 68, 69, 70, 71, 72, 73, 74, 75, 76, 77, 78, 79, 80, 81, 82, 83, 84, 85, 86, 87, 88, 89, 90, 91, 92, 93] [94, 95, 96, 97, 98, 99, 100, 101, 102, 103, 104, 105, 106, 107, 108, 109, 110, 111, 112, 113, 114, 115, 116, 117, 118, 119, 120, 121, 122, 123, 124, 125, 126, 127, 128, 129, 130, 131, 132, 133, 134, 135, 136, 137, 138, 139, 140, 141] (cutX cy x0 m0 u v) rfl rfl (fun _ _ _ => trivial) dL_law_1120 rfl rfl (Nat.le_of_ble_eq_true rfl) ⟨Nat.le_of_ble_eq_true rfl, Nat.le_of_ble_eq_true rfl⟩ ⟨Nat.le_of_ble_eq_true rfl, Nat.le_of_ble_eq_true rfl⟩ (fun r1 u2 H locs hw1 hP9 hD9 hS9 => ?_)
  clear hP hD hS
  have hP := hP9
  have hD := hD9
  have hS := hS9
  clear hP9 hD9 hS9
  refine W.widen (k := 142) (n := 14416) (Nat.le_of_ble_eq_true rfl) (Nat.le_of_ble_eq_true rfl) ?_
  refine lv_pop hx hb dL_law_1123 rfl ?_
  refine lv_aload_n hx hb dL_law_1124 rfl (lv_at hl 1 rfl) ?_
  refine lv_aload_n hx hb dL_law_1125 rfl (lv_at hl 3 rfl) ?_
  refine lv_iload_n hx hb dL_law_1126 rfl (lv_at hl 0 rfl) ?_
  refine lv_iconst (v := 1) hx hb dL_law_1127 (by decide) ?_
  refine lv_iadd hx hb dL_law_1128 ?_
  refine lv_topi (fun y_3 hy_3 => ?_)
  obtain rfl : y_3 = nI (i + 1) := hy_3.trans (nI_add i 1)
  refine va_sld hx hb hX hbl hbA hS (vp_in_nI (by omega) (by omega)) dL_law_1129 ?_
  refine lv_aload_n hx hb dL_law_1130 rfl (lv_at hl 3 rfl) ?_
  refine lv_iload_n hx hb dL_law_1131 rfl (lv_at hl 0 rfl) ?_
  refine lv_iconst (v := 2) hx hb dL_law_1132 (by decide) ?_
  refine lv_iadd hx hb dL_law_1133 ?_
  refine lv_topi (fun y_4 hy_4 => ?_)
  obtain rfl : y_4 = nI (i + 2) := hy_4.trans (nI_add i 2)
  refine va_sld hx hb hX hbl hbA hS (vp_in_nI (by omega) (by omega)) dL_law_1134 ?_
  refine x_callVi (q := (RX12, TX12, 89)) (ci := 12) (q0 := 0) (wr := IX cy x0 u2) (rest := []) ⟨hx, hb, hml, hown, hg, hl.1⟩ k_L_155 (tm_stood l D cy m0 v hv (xs (nI (i + 1) : Int32).toNatClampNeg) (xs (nI (i + 2) : Int32).toNatClampNeg)) E0_blind hK hP hD hS hA [0, 1, 2, 3, 4, 5, 6, 7, 8, 9, 10, 11, 12, 13, 14, 15, 16, 17, 18, 19, 20, 21, 22, 23, 24, 25, 26, 27, 28, 29, 30, 31, 32, 33, 34, 35, 36, 37, 38, 39, 40, 41, 42, 43, 44, 45, 46, 47] [48, 49, 50, 51, 52, 53, 54, 55, 56, 57, 58, 59, 60, 61, 62, 63, 64, 65, 66, 67, 68, 69, 70, 71, 72, 73, 74, 75, 76, 77, 78, 79, 80, 81, 82, 83, 84, 85, 86, 87, 88, 89, 90, 91, 92, 93, 94, 95, 96, 97, 98, 99, 100, 101, 102, 103, 104, 105, 106, 107, 108, 109, 110, 111, 112, 113, 114, 115, 116, 117, 118, 119, 120, 121, 122, 123, 124, 125, 126, 127, 128, 129, 130, 131, 132, 133, 134, 135, 136, 137, 138, 139, 140, 141] (cutM cy x0 m0 u2 v) rfl rfl (fun _ _ _ => trivial) dL_law_1135 rfl rfl (Nat.le_of_ble_eq_true rfl) ⟨Nat.le_of_ble_eq_true rfl, Nat.le_of_ble_eq_true rfl⟩ ⟨Nat.le_of_ble_eq_true rfl, Nat.le_of_ble_eq_true rfl⟩ (fun r2 v2 H locs hw2 hP9 hD9 hS9 => ?_)
  clear hP hD hS
  have hP := hP9
  have hD := hD9
  have hS := hS9
  clear hP9 hD9 hS9
  refine W.widen (k := 142) (n := 14416) (Nat.le_of_ble_eq_true rfl) (Nat.le_of_ble_eq_true rfl) ?_
  refine lv_pop hx hb dL_law_1138 rfl ?_
  refine lv_goto (tgt := 1244) hx hb dL_law_1139 (by decide) ?_
  exact hk u2 v2 H locs ls hw1.1 hw2.1 ⟨(sm_d hT.1 hw1.2.1 hw2.2.1), RH_eq hT.2.1 hw1.2.2.1 hw2.2.2.1, RS_eq hT.2.2.1 hw1.2.1.2.1 hw1.2.2.2.1 hw2.2.2.2.1, RMt_of hw1.2.2.2.2.2 hw2.2.2.2.2.2 hT.2.2.2⟩ hP hD hS hl
theorem gdL_law_1142 : decode cL_law 1142 = .ok (.aload_n 1, 1) ∧ decode cL_law 1143 = .ok (.aload_n 0, 1) ∧ decode cL_law 1144 = .ok (.iload_n 3, 1) ∧ decode cL_law 1145 = .ok (.iconst 1, 1) ∧ decode cL_law 1146 = .ok (.iadd, 1) ∧ decode cL_law 1147 = .ok (.iaload, 1) ∧ decode cL_law 1148 = .ok (.aload_n 0, 1) ∧ decode cL_law 1149 = .ok (.iload_n 3, 1) ∧ decode cL_law 1150 = .ok (.iconst 2, 1) ∧ decode cL_law 1151 = .ok (.iadd, 1) ∧ decode cL_law 1152 = .ok (.iaload, 1) ∧ decode cL_law 1153 = .ok (.invokevirtual 156, 3) := by decide +kernel
theorem dL_law_1142 : decode cL_law 1142 = .ok (.aload_n 1, 1) := gdL_law_1142.1
theorem dL_law_1143 : decode cL_law 1143 = .ok (.aload_n 0, 1) := gdL_law_1142.2.1
theorem dL_law_1144 : decode cL_law 1144 = .ok (.iload_n 3, 1) := gdL_law_1142.2.2.1
theorem dL_law_1145 : decode cL_law 1145 = .ok (.iconst 1, 1) := gdL_law_1142.2.2.2.1
theorem dL_law_1146 : decode cL_law 1146 = .ok (.iadd, 1) := gdL_law_1142.2.2.2.2.1
theorem dL_law_1147 : decode cL_law 1147 = .ok (.iaload, 1) := gdL_law_1142.2.2.2.2.2.1
theorem dL_law_1148 : decode cL_law 1148 = .ok (.aload_n 0, 1) := gdL_law_1142.2.2.2.2.2.2.1
theorem dL_law_1149 : decode cL_law 1149 = .ok (.iload_n 3, 1) := gdL_law_1142.2.2.2.2.2.2.2.1
theorem dL_law_1150 : decode cL_law 1150 = .ok (.iconst 2, 1) := gdL_law_1142.2.2.2.2.2.2.2.2.1
theorem dL_law_1151 : decode cL_law 1151 = .ok (.iadd, 1) := gdL_law_1142.2.2.2.2.2.2.2.2.2.1
theorem dL_law_1152 : decode cL_law 1152 = .ok (.iaload, 1) := gdL_law_1142.2.2.2.2.2.2.2.2.2.2.1
theorem dL_law_1153 : decode cL_law 1153 = .ok (.invokevirtual 156, 3) := gdL_law_1142.2.2.2.2.2.2.2.2.2.2.2
theorem k_L_156 : xV RL RX11 156 yX11_ask cX11_ask 3 (some .int) 2 := ⟨⟨m_1371, m_1372, m_1373, m_130, m_1374⟩, rfl, by decide, by decide, by decide +kernel⟩
theorem gdL_law_1156 : decode cL_law 1156 = .ok (.pop, 1) ∧ decode cL_law 1157 = .ok (.aload_n 2, 1) ∧ decode cL_law 1158 = .ok (.aload_n 0, 1) ∧ decode cL_law 1159 = .ok (.iload_n 3, 1) ∧ decode cL_law 1160 = .ok (.iconst 1, 1) ∧ decode cL_law 1161 = .ok (.iadd, 1) ∧ decode cL_law 1162 = .ok (.iaload, 1) ∧ decode cL_law 1163 = .ok (.aload_n 0, 1) ∧ decode cL_law 1164 = .ok (.iload_n 3, 1) ∧ decode cL_law 1165 = .ok (.iconst 2, 1) ∧ decode cL_law 1166 = .ok (.iadd, 1) ∧ decode cL_law 1167 = .ok (.iaload, 1) := by decide +kernel
theorem dL_law_1156 : decode cL_law 1156 = .ok (.pop, 1) := gdL_law_1156.1
theorem dL_law_1157 : decode cL_law 1157 = .ok (.aload_n 2, 1) := gdL_law_1156.2.1
theorem dL_law_1158 : decode cL_law 1158 = .ok (.aload_n 0, 1) := gdL_law_1156.2.2.1
theorem dL_law_1159 : decode cL_law 1159 = .ok (.iload_n 3, 1) := gdL_law_1156.2.2.2.1
theorem dL_law_1160 : decode cL_law 1160 = .ok (.iconst 1, 1) := gdL_law_1156.2.2.2.2.1
theorem dL_law_1161 : decode cL_law 1161 = .ok (.iadd, 1) := gdL_law_1156.2.2.2.2.2.1
theorem dL_law_1162 : decode cL_law 1162 = .ok (.iaload, 1) := gdL_law_1156.2.2.2.2.2.2.1
theorem dL_law_1163 : decode cL_law 1163 = .ok (.aload_n 0, 1) := gdL_law_1156.2.2.2.2.2.2.2.1
theorem dL_law_1164 : decode cL_law 1164 = .ok (.iload_n 3, 1) := gdL_law_1156.2.2.2.2.2.2.2.2.1
theorem dL_law_1165 : decode cL_law 1165 = .ok (.iconst 2, 1) := gdL_law_1156.2.2.2.2.2.2.2.2.2.1
theorem dL_law_1166 : decode cL_law 1166 = .ok (.iadd, 1) := gdL_law_1156.2.2.2.2.2.2.2.2.2.2.1
theorem dL_law_1167 : decode cL_law 1167 = .ok (.iaload, 1) := gdL_law_1156.2.2.2.2.2.2.2.2.2.2.2
theorem dL_law_1168 : decode cL_law 1168 = .ok (.invokevirtual 159, 3) := by decide +kernel
theorem k_L_159 : xV RL RX12 159 yX12_ask cX12_ask 8 (some .int) 2 := ⟨⟨m_2133, m_2134, m_2135, m_146, m_2136⟩, rfl, by decide, by decide, by decide +kernel⟩
theorem dL_law_1171 : decode cL_law 1171 = .ok (.pop, 1) := by decide +kernel
theorem dL_law_1172 : decode cL_law 1172 = .ok (.goto 72, 3) := by decide +kernel
set_option maxHeartbeats 4000000 in
set_option maxRecDepth 100000 in
theorem lc_ask {p : Program} {e : Env} {s : State} {m : MethodId} {below : List Frame} {meth : Method} {c : Code} (l : Launch) {D : va_G} {cy : Nat → ClassId} {A : Nat → Prop} {b L : Nat} {xs : Nat → Int32} (hL : L ≤ 3072) (C : lwC p s m meth c b L xs D cy A) {adK adV : Nat → Nat} (hE : EV adK adV A s) (x0 m0 : Nat) {i : Nat} (hi : i + 6 ≤ L) (hk : lwW p l e s m below meth c b D cy A x0 m0 i 1244) : lwW p l e s m below meth c b D cy A x0 m0 i 1142 := by
  obtain ⟨hx, hb, hr, hml, hown, hg, hlocks, hX, hbl, hK, hA, hAr, hbA⟩ := C
  intro u v H locs ls hu hv hT hP hD hS hl
  refine lv_aload_n hx hb dL_law_1142 rfl (lv_at hl 2 rfl) ?_
  refine lv_aload_n hx hb dL_law_1143 rfl (lv_at hl 3 rfl) ?_
  refine lv_iload_n hx hb dL_law_1144 rfl (lv_at hl 0 rfl) ?_
  refine lv_iconst (v := 1) hx hb dL_law_1145 (by decide) ?_
  refine lv_iadd hx hb dL_law_1146 ?_
  refine lv_topi (fun y_1 hy_1 => ?_)
  obtain rfl : y_1 = nI (i + 1) := hy_1.trans (nI_add i 1)
  refine va_sld hx hb hX hbl hbA hS (vp_in_nI (by omega) (by omega)) dL_law_1147 ?_
  refine lv_aload_n hx hb dL_law_1148 rfl (lv_at hl 3 rfl) ?_
  refine lv_iload_n hx hb dL_law_1149 rfl (lv_at hl 0 rfl) ?_
  refine lv_iconst (v := 2) hx hb dL_law_1150 (by decide) ?_
  refine lv_iadd hx hb dL_law_1151 ?_
  refine lv_topi (fun y_2 hy_2 => ?_)
  obtain rfl : y_2 = nI (i + 2) := hy_2.trans (nI_add i 2)
  refine va_sld hx hb hX hbl hbA hS (vp_in_nI (by omega) (by omega)) dL_law_1152 ?_
  refine x_callVi (q := (RX11, TX11, 14)) (ci := 11) (q0 := 0) (wr := IM cy m0 v) (rest := []) ⟨hx, hb, hml, hown, hg, hl.1⟩ k_L_156 (tx_ask l D cy x0 u hu (xs (nI (i + 1) : Int32).toNatClampNeg) (xs (nI (i + 2) : Int32).toNatClampNeg)) E0_blind hK hP hD hS hA [0, 1, 2, 3, 4, 5, 6, 7, 8, 9, 10, 11, 12, 13, 14, 15, 16, 17, 18, 19, 20, 21, 22, 23, 24, 25, 26, 27, 28, 29, 30, 31, 32, 33, 34, 35, 36, 37, 38, 39, 40, 41, 42, 43, 44, 45, 46, 47, 48, 49, 50, 51, 52, 53, 54, 55, 56, 57, 58, 59, 60, 61, 62, 63, 64, 65, 66, 67, 68, 69, 70, 71, 72, 73, 74, 75, 76, 77, 78, 79, 80, 81, 82, 83, 84, 85, 86, 87, 88, 89, 90, 91, 92, 93] [94, 95, 96, 97, 98, 99, 100, 101, 102, 103, 104, 105, 106, 107, 108, 109, 110, 111, 112, 113, 114, 115, 116, 117, 118, 119, 120, 121, 122, 123, 124, 125, 126, 127, 128, 129, 130, 131, 132, 133, 134, 135, 136, 137, 138, 139, 140, 141] (cutX cy x0 m0 u v) rfl rfl (fun _ _ _ => trivial) dL_law_1153 rfl rfl (Nat.le_of_ble_eq_true rfl) ⟨Nat.le_of_ble_eq_true rfl, Nat.le_of_ble_eq_true rfl⟩ ⟨Nat.le_of_ble_eq_true rfl, Nat.le_of_ble_eq_true rfl⟩ (fun r1 u2 H locs hw1 hP9 hD9 hS9 => ?_)
  clear hP hD hS
  have hP := hP9
  have hD := hD9
  have hS := hS9
  clear hP9 hD9 hS9
  refine W.widen (k := 142) (n := 14416) (Nat.le_of_ble_eq_true rfl) (Nat.le_of_ble_eq_true rfl) ?_
  refine lv_pop hx hb dL_law_1156 rfl ?_
  refine lv_aload_n hx hb dL_law_1157 rfl (lv_at hl 1 rfl) ?_
  refine lv_aload_n hx hb dL_law_1158 rfl (lv_at hl 3 rfl) ?_
  refine lv_iload_n hx hb dL_law_1159 rfl (lv_at hl 0 rfl) ?_
  refine lv_iconst (v := 1) hx hb dL_law_1160 (by decide) ?_
  refine lv_iadd hx hb dL_law_1161 ?_
  refine lv_topi (fun y_3 hy_3 => ?_)
  obtain rfl : y_3 = nI (i + 1) := hy_3.trans (nI_add i 1)
  refine va_sld hx hb hX hbl hbA hS (vp_in_nI (by omega) (by omega)) dL_law_1162 ?_
  refine lv_aload_n hx hb dL_law_1163 rfl (lv_at hl 3 rfl) ?_
  refine lv_iload_n hx hb dL_law_1164 rfl (lv_at hl 0 rfl) ?_
  refine lv_iconst (v := 2) hx hb dL_law_1165 (by decide) ?_
  refine lv_iadd hx hb dL_law_1166 ?_
  refine lv_topi (fun y_4 hy_4 => ?_)
  obtain rfl : y_4 = nI (i + 2) := hy_4.trans (nI_add i 2)
  refine va_sld hx hb hX hbl hbA hS (vp_in_nI (by omega) (by omega)) dL_law_1167 ?_
  refine x_callVi (q := (RX12, TX12, 89)) (ci := 12) (q0 := 0) (wr := IX cy x0 u2) (rest := []) ⟨hx, hb, hml, hown, hg, hl.1⟩ k_L_159 (tm_ask l D cy m0 v hv (xs (nI (i + 1) : Int32).toNatClampNeg) (xs (nI (i + 2) : Int32).toNatClampNeg)) E0_blind hK hP hD hS hA [0, 1, 2, 3, 4, 5, 6, 7, 8, 9, 10, 11, 12, 13, 14, 15, 16, 17, 18, 19, 20, 21, 22, 23, 24, 25, 26, 27, 28, 29, 30, 31, 32, 33, 34, 35, 36, 37, 38, 39, 40, 41, 42, 43, 44, 45, 46, 47] [48, 49, 50, 51, 52, 53, 54, 55, 56, 57, 58, 59, 60, 61, 62, 63, 64, 65, 66, 67, 68, 69, 70, 71, 72, 73, 74, 75, 76, 77, 78, 79, 80, 81, 82, 83, 84, 85, 86, 87, 88, 89, 90, 91, 92, 93, 94, 95, 96, 97, 98, 99, 100, 101, 102, 103, 104, 105, 106, 107, 108, 109, 110, 111, 112, 113, 114, 115, 116, 117, 118, 119, 120, 121, 122, 123, 124, 125, 126, 127, 128, 129, 130, 131, 132, 133, 134, 135, 136, 137, 138, 139, 140, 141] (cutM cy x0 m0 u2 v) rfl rfl (fun _ _ _ => trivial) dL_law_1168 rfl rfl (Nat.le_of_ble_eq_true rfl) ⟨Nat.le_of_ble_eq_true rfl, Nat.le_of_ble_eq_true rfl⟩ ⟨Nat.le_of_ble_eq_true rfl, Nat.le_of_ble_eq_true rfl⟩ (fun r2 v2 H locs hw2 hP9 hD9 hS9 => ?_)
  clear hP hD hS
  have hP := hP9
  have hD := hD9
  have hS := hS9
  clear hP9 hD9 hS9
  refine W.widen (k := 142) (n := 14416) (Nat.le_of_ble_eq_true rfl) (Nat.le_of_ble_eq_true rfl) ?_
  refine lv_pop hx hb dL_law_1171 rfl ?_
  refine lv_goto (tgt := 1244) hx hb dL_law_1172 (by decide) ?_
  exact hk u2 v2 H locs ls hw1.1 hw2.1 ⟨(sm_d hT.1 hw1.2.1 hw2.2.1), RH_eq hT.2.1 hw1.2.2.1 hw2.2.2.1, RS_eq hT.2.2.1 hw1.2.1.2.1 hw1.2.2.2.1 hw2.2.2.2.1, RMt_of hw1.2.2.2.2.2 hw2.2.2.2.2.2 hT.2.2.2⟩ hP hD hS hl
theorem gdL_law_1175 : decode cL_law 1175 = .ok (.aload_n 1, 1) ∧ decode cL_law 1176 = .ok (.aload_n 0, 1) ∧ decode cL_law 1177 = .ok (.iload_n 3, 1) ∧ decode cL_law 1178 = .ok (.iconst 1, 1) ∧ decode cL_law 1179 = .ok (.iadd, 1) ∧ decode cL_law 1180 = .ok (.iaload, 1) ∧ decode cL_law 1181 = .ok (.invokevirtual 160, 3) := by decide +kernel
theorem dL_law_1175 : decode cL_law 1175 = .ok (.aload_n 1, 1) := gdL_law_1175.1
theorem dL_law_1176 : decode cL_law 1176 = .ok (.aload_n 0, 1) := gdL_law_1175.2.1
theorem dL_law_1177 : decode cL_law 1177 = .ok (.iload_n 3, 1) := gdL_law_1175.2.2.1
theorem dL_law_1178 : decode cL_law 1178 = .ok (.iconst 1, 1) := gdL_law_1175.2.2.2.1
theorem dL_law_1179 : decode cL_law 1179 = .ok (.iadd, 1) := gdL_law_1175.2.2.2.2.1
theorem dL_law_1180 : decode cL_law 1180 = .ok (.iaload, 1) := gdL_law_1175.2.2.2.2.2.1
theorem dL_law_1181 : decode cL_law 1181 = .ok (.invokevirtual 160, 3) := gdL_law_1175.2.2.2.2.2.2
theorem k_L_160 : xV RL RX11 160 yX11_image cX11_image 2 (some .int) 1 := ⟨⟨m_1384, m_1385, m_1386, m_130, m_1387⟩, rfl, by decide, by decide, by decide +kernel⟩
theorem gdL_law_1184 : decode cL_law 1184 = .ok (.pop, 1) ∧ decode cL_law 1185 = .ok (.aload_n 2, 1) ∧ decode cL_law 1186 = .ok (.aload_n 0, 1) ∧ decode cL_law 1187 = .ok (.iload_n 3, 1) ∧ decode cL_law 1188 = .ok (.iconst 1, 1) ∧ decode cL_law 1189 = .ok (.iadd, 1) ∧ decode cL_law 1190 = .ok (.iaload, 1) ∧ decode cL_law 1191 = .ok (.invokevirtual 163, 3) := by decide +kernel
theorem dL_law_1184 : decode cL_law 1184 = .ok (.pop, 1) := gdL_law_1184.1
theorem dL_law_1185 : decode cL_law 1185 = .ok (.aload_n 2, 1) := gdL_law_1184.2.1
theorem dL_law_1186 : decode cL_law 1186 = .ok (.aload_n 0, 1) := gdL_law_1184.2.2.1
theorem dL_law_1187 : decode cL_law 1187 = .ok (.iload_n 3, 1) := gdL_law_1184.2.2.2.1
theorem dL_law_1188 : decode cL_law 1188 = .ok (.iconst 1, 1) := gdL_law_1184.2.2.2.2.1
theorem dL_law_1189 : decode cL_law 1189 = .ok (.iadd, 1) := gdL_law_1184.2.2.2.2.2.1
theorem dL_law_1190 : decode cL_law 1190 = .ok (.iaload, 1) := gdL_law_1184.2.2.2.2.2.2.1
theorem dL_law_1191 : decode cL_law 1191 = .ok (.invokevirtual 163, 3) := gdL_law_1184.2.2.2.2.2.2.2
theorem k_L_163 : xV RL RX12 163 yX12_image cX12_image 3 (some .int) 1 := ⟨⟨m_2141, m_2142, m_2143, m_146, m_2144⟩, rfl, by decide, by decide, by decide +kernel⟩
theorem dL_law_1194 : decode cL_law 1194 = .ok (.pop, 1) := by decide +kernel
theorem dL_law_1195 : decode cL_law 1195 = .ok (.goto 49, 3) := by decide +kernel
set_option maxHeartbeats 4000000 in
set_option maxRecDepth 100000 in
theorem lc_image {p : Program} {e : Env} {s : State} {m : MethodId} {below : List Frame} {meth : Method} {c : Code} (l : Launch) {D : va_G} {cy : Nat → ClassId} {A : Nat → Prop} {b L : Nat} {xs : Nat → Int32} (hL : L ≤ 3072) (C : lwC p s m meth c b L xs D cy A) {adK adV : Nat → Nat} (hE : EV adK adV A s) (x0 m0 : Nat) {i : Nat} (hi : i + 6 ≤ L) (hk : lwW p l e s m below meth c b D cy A x0 m0 i 1244) : lwW p l e s m below meth c b D cy A x0 m0 i 1175 := by
  obtain ⟨hx, hb, hr, hml, hown, hg, hlocks, hX, hbl, hK, hA, hAr, hbA⟩ := C
  intro u v H locs ls hu hv hT hP hD hS hl
  refine lv_aload_n hx hb dL_law_1175 rfl (lv_at hl 2 rfl) ?_
  refine lv_aload_n hx hb dL_law_1176 rfl (lv_at hl 3 rfl) ?_
  refine lv_iload_n hx hb dL_law_1177 rfl (lv_at hl 0 rfl) ?_
  refine lv_iconst (v := 1) hx hb dL_law_1178 (by decide) ?_
  refine lv_iadd hx hb dL_law_1179 ?_
  refine lv_topi (fun y_1 hy_1 => ?_)
  obtain rfl : y_1 = nI (i + 1) := hy_1.trans (nI_add i 1)
  refine va_sld hx hb hX hbl hbA hS (vp_in_nI (by omega) (by omega)) dL_law_1180 ?_
  refine x_callVi (q := (RX11, TX11, 14)) (ci := 11) (q0 := 0) (wr := IM cy m0 v) (rest := []) ⟨hx, hb, hml, hown, hg, hl.1⟩ k_L_160 (tx_image l D cy x0 u hu (xs (nI (i + 1) : Int32).toNatClampNeg)) E0_blind hK hP hD hS hA [0, 1, 2, 3, 4, 5, 6, 7, 8, 9, 10, 11, 12, 13, 14, 15, 16, 17, 18, 19, 20, 21, 22, 23, 24, 25, 26, 27, 28, 29, 30, 31, 32, 33, 34, 35, 36, 37, 38, 39, 40, 41, 42, 43, 44, 45, 46, 47, 48, 49, 50, 51, 52, 53, 54, 55, 56, 57, 58, 59, 60, 61, 62, 63, 64, 65, 66, 67, 68, 69, 70, 71, 72, 73, 74, 75, 76, 77, 78, 79, 80, 81, 82, 83, 84, 85, 86, 87, 88, 89, 90, 91, 92, 93] [94, 95, 96, 97, 98, 99, 100, 101, 102, 103, 104, 105, 106, 107, 108, 109, 110, 111, 112, 113, 114, 115, 116, 117, 118, 119, 120, 121, 122, 123, 124, 125, 126, 127, 128, 129, 130, 131, 132, 133, 134, 135, 136, 137, 138, 139, 140, 141] (cutX cy x0 m0 u v) rfl rfl (fun _ _ _ => trivial) dL_law_1181 rfl rfl (Nat.le_of_ble_eq_true rfl) ⟨Nat.le_of_ble_eq_true rfl, Nat.le_of_ble_eq_true rfl⟩ ⟨Nat.le_of_ble_eq_true rfl, Nat.le_of_ble_eq_true rfl⟩ (fun r1 u2 H locs hw1 hP9 hD9 hS9 => ?_)
  clear hP hD hS
  have hP := hP9
  have hD := hD9
  have hS := hS9
  clear hP9 hD9 hS9
  refine W.widen (k := 142) (n := 14416) (Nat.le_of_ble_eq_true rfl) (Nat.le_of_ble_eq_true rfl) ?_
  refine lv_pop hx hb dL_law_1184 rfl ?_
  refine lv_aload_n hx hb dL_law_1185 rfl (lv_at hl 1 rfl) ?_
  refine lv_aload_n hx hb dL_law_1186 rfl (lv_at hl 3 rfl) ?_
  refine lv_iload_n hx hb dL_law_1187 rfl (lv_at hl 0 rfl) ?_
  refine lv_iconst (v := 1) hx hb dL_law_1188 (by decide) ?_
  refine lv_iadd hx hb dL_law_1189 ?_
  refine lv_topi (fun y_2 hy_2 => ?_)
  obtain rfl : y_2 = nI (i + 1) := hy_2.trans (nI_add i 1)
  refine va_sld hx hb hX hbl hbA hS (vp_in_nI (by omega) (by omega)) dL_law_1190 ?_
  refine x_callVi (q := (RX12, TX12, 89)) (ci := 12) (q0 := 0) (wr := IX cy x0 u2) (rest := []) ⟨hx, hb, hml, hown, hg, hl.1⟩ k_L_163 (tm_image l D cy m0 v hv (xs (nI (i + 1) : Int32).toNatClampNeg)) E0_blind hK hP hD hS hA [0, 1, 2, 3, 4, 5, 6, 7, 8, 9, 10, 11, 12, 13, 14, 15, 16, 17, 18, 19, 20, 21, 22, 23, 24, 25, 26, 27, 28, 29, 30, 31, 32, 33, 34, 35, 36, 37, 38, 39, 40, 41, 42, 43, 44, 45, 46, 47] [48, 49, 50, 51, 52, 53, 54, 55, 56, 57, 58, 59, 60, 61, 62, 63, 64, 65, 66, 67, 68, 69, 70, 71, 72, 73, 74, 75, 76, 77, 78, 79, 80, 81, 82, 83, 84, 85, 86, 87, 88, 89, 90, 91, 92, 93, 94, 95, 96, 97, 98, 99, 100, 101, 102, 103, 104, 105, 106, 107, 108, 109, 110, 111, 112, 113, 114, 115, 116, 117, 118, 119, 120, 121, 122, 123, 124, 125, 126, 127, 128, 129, 130, 131, 132, 133, 134, 135, 136, 137, 138, 139, 140, 141] (cutM cy x0 m0 u2 v) rfl rfl (fun _ _ _ => trivial) dL_law_1191 rfl rfl (Nat.le_of_ble_eq_true rfl) ⟨Nat.le_of_ble_eq_true rfl, Nat.le_of_ble_eq_true rfl⟩ ⟨Nat.le_of_ble_eq_true rfl, Nat.le_of_ble_eq_true rfl⟩ (fun r2 v2 H locs hw2 hP9 hD9 hS9 => ?_)
  clear hP hD hS
  have hP := hP9
  have hD := hD9
  have hS := hS9
  clear hP9 hD9 hS9
  refine W.widen (k := 142) (n := 14416) (Nat.le_of_ble_eq_true rfl) (Nat.le_of_ble_eq_true rfl) ?_
  refine lv_pop hx hb dL_law_1194 rfl ?_
  refine lv_goto (tgt := 1244) hx hb dL_law_1195 (by decide) ?_
  exact hk u2 v2 H locs ls hw1.1 hw2.1 ⟨(sm_d hT.1 hw1.2.1 hw2.2.1), RH_eq hT.2.1 hw1.2.2.1 hw2.2.2.1, RS_eq hT.2.2.1 hw1.2.1.2.1 hw1.2.2.2.1 hw2.2.2.2.1, RMt_of hw1.2.2.2.2.2.2 hw2.2.2.2.2.2.2 (im_same (by decide) (by decide) hT.2.2.2 hw1.2.2.2.2.2.1 hw2.2.2.2.2.2.1).2⟩ hP hD hS hl
theorem gdL_law_1198 : decode cL_law 1198 = .ok (.aload_n 1, 1) ∧ decode cL_law 1199 = .ok (.aload_n 0, 1) ∧ decode cL_law 1200 = .ok (.iload_n 3, 1) ∧ decode cL_law 1201 = .ok (.iconst 1, 1) ∧ decode cL_law 1202 = .ok (.iadd, 1) ∧ decode cL_law 1203 = .ok (.iaload, 1) ∧ decode cL_law 1204 = .ok (.invokevirtual 164, 3) := by decide +kernel
theorem dL_law_1198 : decode cL_law 1198 = .ok (.aload_n 1, 1) := gdL_law_1198.1
theorem dL_law_1199 : decode cL_law 1199 = .ok (.aload_n 0, 1) := gdL_law_1198.2.1
theorem dL_law_1200 : decode cL_law 1200 = .ok (.iload_n 3, 1) := gdL_law_1198.2.2.1
theorem dL_law_1201 : decode cL_law 1201 = .ok (.iconst 1, 1) := gdL_law_1198.2.2.2.1
theorem dL_law_1202 : decode cL_law 1202 = .ok (.iadd, 1) := gdL_law_1198.2.2.2.2.1
theorem dL_law_1203 : decode cL_law 1203 = .ok (.iaload, 1) := gdL_law_1198.2.2.2.2.2.1
theorem dL_law_1204 : decode cL_law 1204 = .ok (.invokevirtual 164, 3) := gdL_law_1198.2.2.2.2.2.2
theorem k_L_164 : xV RL RX11 164 yX11_back cX11_back 2 (some .int) 1 := ⟨⟨m_1395, m_1396, m_1397, m_130, m_1398⟩, rfl, by decide, by decide, by decide +kernel⟩
theorem gdL_law_1207 : decode cL_law 1207 = .ok (.pop, 1) ∧ decode cL_law 1208 = .ok (.aload_n 2, 1) ∧ decode cL_law 1209 = .ok (.aload_n 0, 1) ∧ decode cL_law 1210 = .ok (.iload_n 3, 1) ∧ decode cL_law 1211 = .ok (.iconst 1, 1) ∧ decode cL_law 1212 = .ok (.iadd, 1) ∧ decode cL_law 1213 = .ok (.iaload, 1) ∧ decode cL_law 1214 = .ok (.invokevirtual 167, 3) := by decide +kernel
theorem dL_law_1207 : decode cL_law 1207 = .ok (.pop, 1) := gdL_law_1207.1
theorem dL_law_1208 : decode cL_law 1208 = .ok (.aload_n 2, 1) := gdL_law_1207.2.1
theorem dL_law_1209 : decode cL_law 1209 = .ok (.aload_n 0, 1) := gdL_law_1207.2.2.1
theorem dL_law_1210 : decode cL_law 1210 = .ok (.iload_n 3, 1) := gdL_law_1207.2.2.2.1
theorem dL_law_1211 : decode cL_law 1211 = .ok (.iconst 1, 1) := gdL_law_1207.2.2.2.2.1
theorem dL_law_1212 : decode cL_law 1212 = .ok (.iadd, 1) := gdL_law_1207.2.2.2.2.2.1
theorem dL_law_1213 : decode cL_law 1213 = .ok (.iaload, 1) := gdL_law_1207.2.2.2.2.2.2.1
theorem dL_law_1214 : decode cL_law 1214 = .ok (.invokevirtual 167, 3) := gdL_law_1207.2.2.2.2.2.2.2
theorem k_L_167 : xV RL RX12 167 yX12_back cX12_back 3 (some .int) 1 := ⟨⟨m_2148, m_2149, m_2150, m_146, m_2151⟩, rfl, by decide, by decide, by decide +kernel⟩
theorem dL_law_1217 : decode cL_law 1217 = .ok (.pop, 1) := by decide +kernel
theorem dL_law_1218 : decode cL_law 1218 = .ok (.goto 26, 3) := by decide +kernel
set_option maxHeartbeats 4000000 in
set_option maxRecDepth 100000 in
theorem lc_back {p : Program} {e : Env} {s : State} {m : MethodId} {below : List Frame} {meth : Method} {c : Code} (l : Launch) {D : va_G} {cy : Nat → ClassId} {A : Nat → Prop} {b L : Nat} {xs : Nat → Int32} (hL : L ≤ 3072) (C : lwC p s m meth c b L xs D cy A) {adK adV : Nat → Nat} (hE : EV adK adV A s) (x0 m0 : Nat) {i : Nat} (hi : i + 6 ≤ L) (hk : lwW p l e s m below meth c b D cy A x0 m0 i 1244) : lwW p l e s m below meth c b D cy A x0 m0 i 1198 := by
  obtain ⟨hx, hb, hr, hml, hown, hg, hlocks, hX, hbl, hK, hA, hAr, hbA⟩ := C
  intro u v H locs ls hu hv hT hP hD hS hl
  refine lv_aload_n hx hb dL_law_1198 rfl (lv_at hl 2 rfl) ?_
  refine lv_aload_n hx hb dL_law_1199 rfl (lv_at hl 3 rfl) ?_
  refine lv_iload_n hx hb dL_law_1200 rfl (lv_at hl 0 rfl) ?_
  refine lv_iconst (v := 1) hx hb dL_law_1201 (by decide) ?_
  refine lv_iadd hx hb dL_law_1202 ?_
  refine lv_topi (fun y_1 hy_1 => ?_)
  obtain rfl : y_1 = nI (i + 1) := hy_1.trans (nI_add i 1)
  refine va_sld hx hb hX hbl hbA hS (vp_in_nI (by omega) (by omega)) dL_law_1203 ?_
  refine x_callVi (q := (RX11, TX11, 14)) (ci := 11) (q0 := 0) (wr := IM cy m0 v) (rest := []) ⟨hx, hb, hml, hown, hg, hl.1⟩ k_L_164 (tx_back l D cy x0 u hu (xs (nI (i + 1) : Int32).toNatClampNeg)) E0_blind hK hP hD hS hA [0, 1, 2, 3, 4, 5, 6, 7, 8, 9, 10, 11, 12, 13, 14, 15, 16, 17, 18, 19, 20, 21, 22, 23, 24, 25, 26, 27, 28, 29, 30, 31, 32, 33, 34, 35, 36, 37, 38, 39, 40, 41, 42, 43, 44, 45, 46, 47, 48, 49, 50, 51, 52, 53, 54, 55, 56, 57, 58, 59, 60, 61, 62, 63, 64, 65, 66, 67, 68, 69, 70, 71, 72, 73, 74, 75, 76, 77, 78, 79, 80, 81, 82, 83, 84, 85, 86, 87, 88, 89, 90, 91, 92, 93] [94, 95, 96, 97, 98, 99, 100, 101, 102, 103, 104, 105, 106, 107, 108, 109, 110, 111, 112, 113, 114, 115, 116, 117, 118, 119, 120, 121, 122, 123, 124, 125, 126, 127, 128, 129, 130, 131, 132, 133, 134, 135, 136, 137, 138, 139, 140, 141] (cutX cy x0 m0 u v) rfl rfl (fun _ _ _ => trivial) dL_law_1204 rfl rfl (Nat.le_of_ble_eq_true rfl) ⟨Nat.le_of_ble_eq_true rfl, Nat.le_of_ble_eq_true rfl⟩ ⟨Nat.le_of_ble_eq_true rfl, Nat.le_of_ble_eq_true rfl⟩ (fun r1 u2 H locs hw1 hP9 hD9 hS9 => ?_)
  clear hP hD hS
  have hP := hP9
  have hD := hD9
  have hS := hS9
  clear hP9 hD9 hS9
  refine W.widen (k := 142) (n := 14416) (Nat.le_of_ble_eq_true rfl) (Nat.le_of_ble_eq_true rfl) ?_
  refine lv_pop hx hb dL_law_1207 rfl ?_
  refine lv_aload_n hx hb dL_law_1208 rfl (lv_at hl 1 rfl) ?_
  refine lv_aload_n hx hb dL_law_1209 rfl (lv_at hl 3 rfl) ?_
  refine lv_iload_n hx hb dL_law_1210 rfl (lv_at hl 0 rfl) ?_
  refine lv_iconst (v := 1) hx hb dL_law_1211 (by decide) ?_
  refine lv_iadd hx hb dL_law_1212 ?_
  refine lv_topi (fun y_2 hy_2 => ?_)
  obtain rfl : y_2 = nI (i + 1) := hy_2.trans (nI_add i 1)
  refine va_sld hx hb hX hbl hbA hS (vp_in_nI (by omega) (by omega)) dL_law_1213 ?_
  refine x_callVi (q := (RX12, TX12, 89)) (ci := 12) (q0 := 0) (wr := IX cy x0 u2) (rest := []) ⟨hx, hb, hml, hown, hg, hl.1⟩ k_L_167 (tm_back l D cy m0 v hv (xs (nI (i + 1) : Int32).toNatClampNeg)) E0_blind hK hP hD hS hA [0, 1, 2, 3, 4, 5, 6, 7, 8, 9, 10, 11, 12, 13, 14, 15, 16, 17, 18, 19, 20, 21, 22, 23, 24, 25, 26, 27, 28, 29, 30, 31, 32, 33, 34, 35, 36, 37, 38, 39, 40, 41, 42, 43, 44, 45, 46, 47] [48, 49, 50, 51, 52, 53, 54, 55, 56, 57, 58, 59, 60, 61, 62, 63, 64, 65, 66, 67, 68, 69, 70, 71, 72, 73, 74, 75, 76, 77, 78, 79, 80, 81, 82, 83, 84, 85, 86, 87, 88, 89, 90, 91, 92, 93, 94, 95, 96, 97, 98, 99, 100, 101, 102, 103, 104, 105, 106, 107, 108, 109, 110, 111, 112, 113, 114, 115, 116, 117, 118, 119, 120, 121, 122, 123, 124, 125, 126, 127, 128, 129, 130, 131, 132, 133, 134, 135, 136, 137, 138, 139, 140, 141] (cutM cy x0 m0 u2 v) rfl rfl (fun _ _ _ => trivial) dL_law_1214 rfl rfl (Nat.le_of_ble_eq_true rfl) ⟨Nat.le_of_ble_eq_true rfl, Nat.le_of_ble_eq_true rfl⟩ ⟨Nat.le_of_ble_eq_true rfl, Nat.le_of_ble_eq_true rfl⟩ (fun r2 v2 H locs hw2 hP9 hD9 hS9 => ?_)
  clear hP hD hS
  have hP := hP9
  have hD := hD9
  have hS := hS9
  clear hP9 hD9 hS9
  refine W.widen (k := 142) (n := 14416) (Nat.le_of_ble_eq_true rfl) (Nat.le_of_ble_eq_true rfl) ?_
  refine lv_pop hx hb dL_law_1217 rfl ?_
  refine lv_goto (tgt := 1244) hx hb dL_law_1218 (by decide) ?_
  exact hk u2 v2 H locs ls hw1.1 hw2.1 ⟨(sm_d hT.1 hw1.2.1 hw2.2.1), RH_eq hT.2.1 hw1.2.2.1 hw2.2.2.1, RS_eq hT.2.2.1 hw1.2.1.2.1 hw1.2.2.2.1 hw2.2.2.2.1, RMt_of hw1.2.2.2.2.2.2 hw2.2.2.2.2.2.2 (bk_same (by decide) (by decide) hT.2.2.2 hw1.2.2.2.2.2.1 hw2.2.2.2.2.2.1).2⟩ hP hD hS hl
theorem gdL_law_1221 : decode cL_law 1221 = .ok (.aload_n 1, 1) ∧ decode cL_law 1222 = .ok (.aload_n 0, 1) ∧ decode cL_law 1223 = .ok (.iload_n 3, 1) ∧ decode cL_law 1224 = .ok (.iconst 1, 1) ∧ decode cL_law 1225 = .ok (.iadd, 1) ∧ decode cL_law 1226 = .ok (.iaload, 1) ∧ decode cL_law 1227 = .ok (.invokevirtual 168, 3) := by decide +kernel
theorem dL_law_1221 : decode cL_law 1221 = .ok (.aload_n 1, 1) := gdL_law_1221.1
theorem dL_law_1222 : decode cL_law 1222 = .ok (.aload_n 0, 1) := gdL_law_1221.2.1
theorem dL_law_1223 : decode cL_law 1223 = .ok (.iload_n 3, 1) := gdL_law_1221.2.2.1
theorem dL_law_1224 : decode cL_law 1224 = .ok (.iconst 1, 1) := gdL_law_1221.2.2.2.1
theorem dL_law_1225 : decode cL_law 1225 = .ok (.iadd, 1) := gdL_law_1221.2.2.2.2.1
theorem dL_law_1226 : decode cL_law 1226 = .ok (.iaload, 1) := gdL_law_1221.2.2.2.2.2.1
theorem dL_law_1227 : decode cL_law 1227 = .ok (.invokevirtual 168, 3) := gdL_law_1221.2.2.2.2.2.2
theorem k_L_168 : xV RL RX11 168 yX11_about cX11_about 2 (some .int) 1 := ⟨⟨m_1403, m_1404, m_1405, m_130, m_1406⟩, rfl, by decide, by decide, by decide +kernel⟩
theorem gdL_law_1230 : decode cL_law 1230 = .ok (.pop, 1) ∧ decode cL_law 1231 = .ok (.aload_n 2, 1) ∧ decode cL_law 1232 = .ok (.aload_n 0, 1) ∧ decode cL_law 1233 = .ok (.iload_n 3, 1) ∧ decode cL_law 1234 = .ok (.iconst 1, 1) ∧ decode cL_law 1235 = .ok (.iadd, 1) ∧ decode cL_law 1236 = .ok (.iaload, 1) ∧ decode cL_law 1237 = .ok (.invokevirtual 171, 3) := by decide +kernel
theorem dL_law_1230 : decode cL_law 1230 = .ok (.pop, 1) := gdL_law_1230.1
theorem dL_law_1231 : decode cL_law 1231 = .ok (.aload_n 2, 1) := gdL_law_1230.2.1
theorem dL_law_1232 : decode cL_law 1232 = .ok (.aload_n 0, 1) := gdL_law_1230.2.2.1
theorem dL_law_1233 : decode cL_law 1233 = .ok (.iload_n 3, 1) := gdL_law_1230.2.2.2.1
theorem dL_law_1234 : decode cL_law 1234 = .ok (.iconst 1, 1) := gdL_law_1230.2.2.2.2.1
theorem dL_law_1235 : decode cL_law 1235 = .ok (.iadd, 1) := gdL_law_1230.2.2.2.2.2.1
theorem dL_law_1236 : decode cL_law 1236 = .ok (.iaload, 1) := gdL_law_1230.2.2.2.2.2.2.1
theorem dL_law_1237 : decode cL_law 1237 = .ok (.invokevirtual 171, 3) := gdL_law_1230.2.2.2.2.2.2.2
theorem k_L_171 : xV RL RX12 171 yX12_about cX12_about 2 (some .int) 1 := ⟨⟨m_2152, m_2153, m_2154, m_146, m_2155⟩, rfl, by decide, by decide, by decide +kernel⟩
theorem dL_law_1240 : decode cL_law 1240 = .ok (.pop, 1) := by decide +kernel
theorem dL_law_1241 : decode cL_law 1241 = .ok (.goto 3, 3) := by decide +kernel
set_option maxHeartbeats 4000000 in
set_option maxRecDepth 100000 in
theorem lc_about {p : Program} {e : Env} {s : State} {m : MethodId} {below : List Frame} {meth : Method} {c : Code} (l : Launch) {D : va_G} {cy : Nat → ClassId} {A : Nat → Prop} {b L : Nat} {xs : Nat → Int32} (hL : L ≤ 3072) (C : lwC p s m meth c b L xs D cy A) {adK adV : Nat → Nat} (hE : EV adK adV A s) (x0 m0 : Nat) {i : Nat} (hi : i + 6 ≤ L) (hk : lwW p l e s m below meth c b D cy A x0 m0 i 1244) : lwW p l e s m below meth c b D cy A x0 m0 i 1221 := by
  obtain ⟨hx, hb, hr, hml, hown, hg, hlocks, hX, hbl, hK, hA, hAr, hbA⟩ := C
  intro u v H locs ls hu hv hT hP hD hS hl
  refine lv_aload_n hx hb dL_law_1221 rfl (lv_at hl 2 rfl) ?_
  refine lv_aload_n hx hb dL_law_1222 rfl (lv_at hl 3 rfl) ?_
  refine lv_iload_n hx hb dL_law_1223 rfl (lv_at hl 0 rfl) ?_
  refine lv_iconst (v := 1) hx hb dL_law_1224 (by decide) ?_
  refine lv_iadd hx hb dL_law_1225 ?_
  refine lv_topi (fun y_1 hy_1 => ?_)
  obtain rfl : y_1 = nI (i + 1) := hy_1.trans (nI_add i 1)
  refine va_sld hx hb hX hbl hbA hS (vp_in_nI (by omega) (by omega)) dL_law_1226 ?_
  refine x_callVi (q := (RX11, TX11, 14)) (ci := 11) (q0 := 0) (wr := IM cy m0 v) (rest := []) ⟨hx, hb, hml, hown, hg, hl.1⟩ k_L_168 (tx_about l D cy x0 u hu (xs (nI (i + 1) : Int32).toNatClampNeg)) E0_blind hK hP hD hS hA [0, 1, 2, 3, 4, 5, 6, 7, 8, 9, 10, 11, 12, 13, 14, 15, 16, 17, 18, 19, 20, 21, 22, 23, 24, 25, 26, 27, 28, 29, 30, 31, 32, 33, 34, 35, 36, 37, 38, 39, 40, 41, 42, 43, 44, 45, 46, 47, 48, 49, 50, 51, 52, 53, 54, 55, 56, 57, 58, 59, 60, 61, 62, 63, 64, 65, 66, 67, 68, 69, 70, 71, 72, 73, 74, 75, 76, 77, 78, 79, 80, 81, 82, 83, 84, 85, 86, 87, 88, 89, 90, 91, 92, 93] [94, 95, 96, 97, 98, 99, 100, 101, 102, 103, 104, 105, 106, 107, 108, 109, 110, 111, 112, 113, 114, 115, 116, 117, 118, 119, 120, 121, 122, 123, 124, 125, 126, 127, 128, 129, 130, 131, 132, 133, 134, 135, 136, 137, 138, 139, 140, 141] (cutX cy x0 m0 u v) rfl rfl (fun _ _ _ => trivial) dL_law_1227 rfl rfl (Nat.le_of_ble_eq_true rfl) ⟨Nat.le_of_ble_eq_true rfl, Nat.le_of_ble_eq_true rfl⟩ ⟨Nat.le_of_ble_eq_true rfl, Nat.le_of_ble_eq_true rfl⟩ (fun r1 u2 H locs hw1 hP9 hD9 hS9 => ?_)
  clear hP hD hS
  have hP := hP9
  have hD := hD9
  have hS := hS9
  clear hP9 hD9 hS9
  refine W.widen (k := 142) (n := 14416) (Nat.le_of_ble_eq_true rfl) (Nat.le_of_ble_eq_true rfl) ?_
  refine lv_pop hx hb dL_law_1230 rfl ?_
  refine lv_aload_n hx hb dL_law_1231 rfl (lv_at hl 1 rfl) ?_
  refine lv_aload_n hx hb dL_law_1232 rfl (lv_at hl 3 rfl) ?_
  refine lv_iload_n hx hb dL_law_1233 rfl (lv_at hl 0 rfl) ?_
  refine lv_iconst (v := 1) hx hb dL_law_1234 (by decide) ?_
  refine lv_iadd hx hb dL_law_1235 ?_
  refine lv_topi (fun y_2 hy_2 => ?_)
  obtain rfl : y_2 = nI (i + 1) := hy_2.trans (nI_add i 1)
  refine va_sld hx hb hX hbl hbA hS (vp_in_nI (by omega) (by omega)) dL_law_1236 ?_
  refine x_callVi (q := (RX12, TX12, 89)) (ci := 12) (q0 := 0) (wr := IX cy x0 u2) (rest := []) ⟨hx, hb, hml, hown, hg, hl.1⟩ k_L_171 (tm_about l D cy m0 v hv (xs (nI (i + 1) : Int32).toNatClampNeg)) E0_blind hK hP hD hS hA [0, 1, 2, 3, 4, 5, 6, 7, 8, 9, 10, 11, 12, 13, 14, 15, 16, 17, 18, 19, 20, 21, 22, 23, 24, 25, 26, 27, 28, 29, 30, 31, 32, 33, 34, 35, 36, 37, 38, 39, 40, 41, 42, 43, 44, 45, 46, 47] [48, 49, 50, 51, 52, 53, 54, 55, 56, 57, 58, 59, 60, 61, 62, 63, 64, 65, 66, 67, 68, 69, 70, 71, 72, 73, 74, 75, 76, 77, 78, 79, 80, 81, 82, 83, 84, 85, 86, 87, 88, 89, 90, 91, 92, 93, 94, 95, 96, 97, 98, 99, 100, 101, 102, 103, 104, 105, 106, 107, 108, 109, 110, 111, 112, 113, 114, 115, 116, 117, 118, 119, 120, 121, 122, 123, 124, 125, 126, 127, 128, 129, 130, 131, 132, 133, 134, 135, 136, 137, 138, 139, 140, 141] (cutM cy x0 m0 u2 v) rfl rfl (fun _ _ _ => trivial) dL_law_1237 rfl rfl (Nat.le_of_ble_eq_true rfl) ⟨Nat.le_of_ble_eq_true rfl, Nat.le_of_ble_eq_true rfl⟩ ⟨Nat.le_of_ble_eq_true rfl, Nat.le_of_ble_eq_true rfl⟩ (fun r2 v2 H locs hw2 hP9 hD9 hS9 => ?_)
  clear hP hD hS
  have hP := hP9
  have hD := hD9
  have hS := hS9
  clear hP9 hD9 hS9
  refine W.widen (k := 142) (n := 14416) (Nat.le_of_ble_eq_true rfl) (Nat.le_of_ble_eq_true rfl) ?_
  refine lv_pop hx hb dL_law_1240 rfl ?_
  refine lv_goto (tgt := 1244) hx hb dL_law_1241 (by decide) ?_
  exact hk u2 v2 H locs ls hw1.1 hw2.1 ⟨(sm_d hT.1 hw1.2.1 hw2.2.1), RH_eq hT.2.1 hw1.2.2.1 hw2.2.2.1, RS_eq hT.2.2.1 hw1.2.1.2.1 hw1.2.2.2.1 hw2.2.2.2.1, RMt_of hw1.2.2.2.2.2 hw2.2.2.2.2.2 hT.2.2.2⟩ hP hD hS hl
