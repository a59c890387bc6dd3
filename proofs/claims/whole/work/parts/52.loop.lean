theorem lk_L_26 : zLV RL 26 yX11_feed mi_X11_feed 5 := ⟨⟨zgw (zt2 235 rfl rfl), lm_X11_feed.1, lm_X11_feed.2.1, lm_X11_feed.2.2.1, lm_X11_feed.2.2.2⟩, li_X11_feed⟩
theorem lk_L_30 : zLV RL 30 yX12_feed mi_X12_feed 5 := ⟨⟨zgw (zt6 66 rfl rfl), lm_X12_feed.1, lm_X12_feed.2.1, lm_X12_feed.2.2.1, lm_X12_feed.2.2.2⟩, li_X12_feed⟩
theorem lk_L_31 : zLV RL 31 yX11_end mi_X11_end 1 := ⟨⟨zgw (zt3 3 rfl rfl), lm_X11_end.1, lm_X11_end.2.1, lm_X11_end.2.2.1, lm_X11_end.2.2.2⟩, li_X11_end⟩
theorem lk_L_35 : zLV RL 35 yX12_end mi_X12_end 1 := ⟨⟨zgw (zt6 75 rfl rfl), lm_X12_end.1, lm_X12_end.2.1, lm_X12_end.2.2.1, lm_X12_end.2.2.2⟩, li_X12_end⟩
theorem lk_L_36 : zLV RL 36 yX11_room mi_X11_room 0 := ⟨⟨zgw (zt3 7 rfl rfl), lm_X11_room.1, lm_X11_room.2.1, lm_X11_room.2.2.1, lm_X11_room.2.2.2⟩, li_X11_room⟩
theorem lk_L_40 : zLV RL 40 yX12_room mi_X12_room 0 := ⟨⟨zgw (zt7 6 rfl rfl), lm_X12_room.1, lm_X12_room.2.1, lm_X12_room.2.2.1, lm_X12_room.2.2.2⟩, li_X12_room⟩
theorem lk_L_41 : zLV RL 41 yX11_fault mi_X11_fault 0 := ⟨⟨zgw (zt3 104 rfl rfl), lm_X11_fault.1, lm_X11_fault.2.1, lm_X11_fault.2.2.1, lm_X11_fault.2.2.2⟩, li_X11_fault⟩
theorem lk_L_44 : zLV RL 44 yX12_fault mi_X12_fault 0 := ⟨⟨zgw (zt7 105 rfl rfl), lm_X12_fault.1, lm_X12_fault.2.1, lm_X12_fault.2.2.1, lm_X12_fault.2.2.2⟩, li_X12_fault⟩
theorem lk_L_45 : zLV RL 45 yX11_bath mi_X11_bath 2 := ⟨⟨zgw (zt3 108 rfl rfl), lm_X11_bath.1, lm_X11_bath.2.1, lm_X11_bath.2.2.1, lm_X11_bath.2.2.2⟩, li_X11_bath⟩
theorem lk_L_48 : zLV RL 48 yX12_bath mi_X12_bath 2 := ⟨⟨zgw (zt7 109 rfl rfl), lm_X12_bath.1, lm_X12_bath.2.1, lm_X12_bath.2.2.1, lm_X12_bath.2.2.2⟩, li_X12_bath⟩
theorem lk_L_49 : zLV RL 49 yX11_asks mi_X11_asks 2 := ⟨⟨zgw (zt3 143 rfl rfl), lm_X11_asks.1, lm_X11_asks.2.1, lm_X11_asks.2.2.1, lm_X11_asks.2.2.2⟩, li_X11_asks⟩
theorem lk_L_52 : zLV RL 52 yX12_asks mi_X12_asks 2 := ⟨⟨zgw (zt7 148 rfl rfl), lm_X12_asks.1, lm_X12_asks.2.1, lm_X12_asks.2.2.1, lm_X12_asks.2.2.2⟩, li_X12_asks⟩
theorem lk_L_58 : zLV RL 58 yX12_sheet mi_X12_sheet 2 := ⟨⟨zgw (zt7 156 rfl rfl), lm_X12_sheet.1, lm_X12_sheet.2.1, lm_X12_sheet.2.2.1, lm_X12_sheet.2.2.2⟩, li_X12_sheet⟩
theorem lk_L_59 : zLV RL 59 yX12_thrown mi_X12_thrown 0 := ⟨⟨zgw (zt6 62 rfl rfl), lm_X12_thrown.1, lm_X12_thrown.2.1, lm_X12_thrown.2.2.1, lm_X12_thrown.2.2.2⟩, li_X12_thrown⟩
theorem lk_L_62 : zLV RL 62 yX11_now mi_X11_now 1 := ⟨⟨zgw (zt3 152 rfl rfl), lm_X11_now.1, lm_X11_now.2.1, lm_X11_now.2.2.1, lm_X11_now.2.2.2⟩, li_X11_now⟩
theorem lk_L_65 : zLV RL 65 yX12_now mi_X12_now 1 := ⟨⟨zgw (zt7 168 rfl rfl), lm_X12_now.1, lm_X12_now.2.1, lm_X12_now.2.2.1, lm_X12_now.2.2.2⟩, li_X12_now⟩
theorem lk_L_66 : zLV RL 66 yX11_start mi_X11_start 1 := ⟨⟨zgw (zt3 189 rfl rfl), lm_X11_start.1, lm_X11_start.2.1, lm_X11_start.2.2.1, lm_X11_start.2.2.2⟩, li_X11_start⟩
theorem lk_L_69 : zLV RL 69 yX12_start mi_X12_start 1 := ⟨⟨zgw (zt7 180 rfl rfl), lm_X12_start.1, lm_X12_start.2.1, lm_X12_start.2.2.1, lm_X12_start.2.2.2⟩, li_X12_start⟩
theorem lk_L_70 : zLV RL 70 yX11_take mi_X11_take 1 := ⟨⟨zgw (zt3 231 rfl rfl), lm_X11_take.1, lm_X11_take.2.1, lm_X11_take.2.2.1, lm_X11_take.2.2.2⟩, li_X11_take⟩
theorem lk_L_73 : zLV RL 73 yX12_take_ mi_X12_take_ 1 := ⟨⟨zgw (zt7 228 rfl rfl), lm_X12_take_.1, lm_X12_take_.2.1, lm_X12_take_.2.2.1, lm_X12_take_.2.2.2⟩, li_X12_take_⟩
theorem lk_L_74 : zLV RL 74 yX11_again mi_X11_again 1 := ⟨⟨zgw (zt3 239 rfl rfl), lm_X11_again.1, lm_X11_again.2.1, lm_X11_again.2.2.1, lm_X11_again.2.2.2⟩, li_X11_again⟩
theorem lk_L_77 : zLV RL 77 yX12_again mi_X12_again 1 := ⟨⟨zgw (zt7 232 rfl rfl), lm_X12_again.1, lm_X12_again.2.1, lm_X12_again.2.2.1, lm_X12_again.2.2.2⟩, li_X12_again⟩
theorem lk_L_78 : zLV RL 78 yX11_renew mi_X11_renew 1 := ⟨⟨zgw (zt4 7 rfl rfl), lm_X11_renew.1, lm_X11_renew.2.1, lm_X11_renew.2.2.1, lm_X11_renew.2.2.2⟩, li_X11_renew⟩
theorem lk_L_81 : zLV RL 81 yX12_renew mi_X12_renew 1 := ⟨⟨zgw (zt7 236 rfl rfl), lm_X12_renew.1, lm_X12_renew.2.1, lm_X12_renew.2.2.1, lm_X12_renew.2.2.2⟩, li_X12_renew⟩
theorem lk_L_82 : zLV RL 82 yX11_minutes mi_X11_minutes 1 := ⟨⟨zgw (zt4 15 rfl rfl), lm_X11_minutes.1, lm_X11_minutes.2.1, lm_X11_minutes.2.2.1, lm_X11_minutes.2.2.2⟩, li_X11_minutes⟩
theorem lk_L_85 : zLV RL 85 yX12_minutes mi_X12_minutes 1 := ⟨⟨zgw (zt8 8 rfl rfl), lm_X12_minutes.1, lm_X12_minutes.2.1, lm_X12_minutes.2.2.1, lm_X12_minutes.2.2.2⟩, li_X12_minutes⟩
theorem lk_L_86 : zLV RL 86 yX11_undo mi_X11_undo 0 := ⟨⟨zgw (zt4 40 rfl rfl), lm_X11_undo.1, lm_X11_undo.2.1, lm_X11_undo.2.2.1, lm_X11_undo.2.2.2⟩, li_X11_undo⟩
theorem lk_L_89 : zLV RL 89 yX12_undo mi_X12_undo 0 := ⟨⟨zgw (zt8 0 rfl rfl), lm_X12_undo.1, lm_X12_undo.2.1, lm_X12_undo.2.2.1, lm_X12_undo.2.2.2⟩, li_X12_undo⟩
theorem lk_L_90 : zLV RL 90 yX11_when mi_X11_when 1 := ⟨⟨zgw (zt4 52 rfl rfl), lm_X11_when.1, lm_X11_when.2.1, lm_X11_when.2.2.1, lm_X11_when.2.2.2⟩, li_X11_when⟩
theorem lk_L_93 : zLV RL 93 yX12_when mi_X12_when 1 := ⟨⟨zgw (zt8 31 rfl rfl), lm_X12_when.1, lm_X12_when.2.1, lm_X12_when.2.2.1, lm_X12_when.2.2.2⟩, li_X12_when⟩
theorem lk_L_94 : zLV RL 94 yX11_clear mi_X11_clear 1 := ⟨⟨zgw (zt4 66 rfl rfl), lm_X11_clear.1, lm_X11_clear.2.1, lm_X11_clear.2.2.1, lm_X11_clear.2.2.2⟩, li_X11_clear⟩
theorem lk_L_97 : zLV RL 97 yX12_clear mi_X12_clear 1 := ⟨⟨zgw (zt8 39 rfl rfl), lm_X12_clear.1, lm_X12_clear.2.1, lm_X12_clear.2.2.1, lm_X12_clear.2.2.2⟩, li_X12_clear⟩
theorem lk_L_98 : zLV RL 98 yX11_order mi_X11_order 0 := ⟨⟨zgw (zt4 82 rfl rfl), lm_X11_order.1, lm_X11_order.2.1, lm_X11_order.2.2.1, lm_X11_order.2.2.2⟩, li_X11_order⟩
theorem lk_L_101 : zLV RL 101 yX12_order mi_X12_order 0 := ⟨⟨zgw (zt8 55 rfl rfl), lm_X12_order.1, lm_X12_order.2.1, lm_X12_order.2.2.1, lm_X12_order.2.2.2⟩, li_X12_order⟩
theorem lk_L_102 : zLV RL 102 yX11_orderAt mi_X11_orderAt 1 := ⟨⟨zgw (zt4 106 rfl rfl), lm_X11_orderAt.1, lm_X11_orderAt.2.1, lm_X11_orderAt.2.2.1, lm_X11_orderAt.2.2.2⟩, li_X11_orderAt⟩
theorem lk_L_105 : zLV RL 105 yX12_orderAt mi_X12_orderAt 1 := ⟨⟨zgw (zt8 76 rfl rfl), lm_X12_orderAt.1, lm_X12_orderAt.2.1, lm_X12_orderAt.2.2.1, lm_X12_orderAt.2.2.2⟩, li_X12_orderAt⟩
theorem lk_L_106 : zLV RL 106 yX11_orderWhen mi_X11_orderWhen 1 := ⟨⟨zgw (zt4 110 rfl rfl), lm_X11_orderWhen.1, lm_X11_orderWhen.2.1, lm_X11_orderWhen.2.2.1, lm_X11_orderWhen.2.2.2⟩, li_X11_orderWhen⟩
theorem lk_L_109 : zLV RL 109 yX12_orderWhen mi_X12_orderWhen 1 := ⟨⟨zgw (zt8 80 rfl rfl), lm_X12_orderWhen.1, lm_X12_orderWhen.2.1, lm_X12_orderWhen.2.2.1, lm_X12_orderWhen.2.2.2⟩, li_X12_orderWhen⟩
theorem lk_L_110 : zLV RL 110 yX11_jam mi_X11_jam 0 := ⟨⟨zgw (zt4 114 rfl rfl), lm_X11_jam.1, lm_X11_jam.2.1, lm_X11_jam.2.2.1, lm_X11_jam.2.2.2⟩, li_X11_jam⟩
theorem lk_L_113 : zLV RL 113 yX12_jam mi_X12_jam 0 := ⟨⟨zgw (zt8 84 rfl rfl), lm_X12_jam.1, lm_X12_jam.2.1, lm_X12_jam.2.2.1, lm_X12_jam.2.2.2⟩, li_X12_jam⟩
theorem lk_L_114 : zLV RL 114 yX11_who mi_X11_who 0 := ⟨⟨zgw (zt4 126 rfl rfl), lm_X11_who.1, lm_X11_who.2.1, lm_X11_who.2.2.1, lm_X11_who.2.2.2⟩, li_X11_who⟩
theorem lk_L_117 : zLV RL 117 yX12_who mi_X12_who 0 := ⟨⟨zgw (zt8 92 rfl rfl), lm_X12_who.1, lm_X12_who.2.1, lm_X12_who.2.2.1, lm_X12_who.2.2.2⟩, li_X12_who⟩
theorem lk_L_118 : zLV RL 118 yX11_ask mi_X11_ask 0 := ⟨⟨zgw (zt4 148 rfl rfl), lm_X11_ask.1, lm_X11_ask.2.1, lm_X11_ask.2.2.1, lm_X11_ask.2.2.2⟩, li_X11_ask⟩
theorem lk_L_121 : zLV RL 121 yX12_ask mi_X12_ask 0 := ⟨⟨zgw (zt8 104 rfl rfl), lm_X12_ask.1, lm_X12_ask.2.1, lm_X12_ask.2.2.1, lm_X12_ask.2.2.2⟩, li_X12_ask⟩
theorem lk_L_122 : zLV RL 122 yX11_near mi_X11_near 1 := ⟨⟨zgw (zt4 152 rfl rfl), lm_X11_near.1, lm_X11_near.2.1, lm_X11_near.2.2.1, lm_X11_near.2.2.2⟩, li_X11_near⟩
theorem lk_L_125 : zLV RL 125 yX12_near mi_X12_near 1 := ⟨⟨zgw (zt8 108 rfl rfl), lm_X12_near.1, lm_X12_near.2.1, lm_X12_near.2.2.1, lm_X12_near.2.2.2⟩, li_X12_near⟩
theorem lk_L_126 : zLV RL 126 yX11_through mi_X11_through 1 := ⟨⟨zgw (zt4 164 rfl rfl), lm_X11_through.1, lm_X11_through.2.1, lm_X11_through.2.2.1, lm_X11_through.2.2.2⟩, li_X11_through⟩
theorem lk_L_129 : zLV RL 129 yX12_through mi_X12_through 1 := ⟨⟨zgw (zt8 119 rfl rfl), lm_X12_through.1, lm_X12_through.2.1, lm_X12_through.2.2.1, lm_X12_through.2.2.2⟩, li_X12_through⟩
theorem lk_L_130 : zLV RL 130 yX11_gap mi_X11_gap 2 := ⟨⟨zgw (zt4 172 rfl rfl), lm_X11_gap.1, lm_X11_gap.2.1, lm_X11_gap.2.2.1, lm_X11_gap.2.2.2⟩, li_X11_gap⟩
theorem lk_L_133 : zLV RL 133 yX12_gap mi_X12_gap 2 := ⟨⟨zgw (zt8 123 rfl rfl), lm_X12_gap.1, lm_X12_gap.2.1, lm_X12_gap.2.2.1, lm_X12_gap.2.2.2⟩, li_X12_gap⟩
theorem lk_L_134 : zLV RL 134 yX11_chain mi_X11_chain 0 := ⟨⟨zgw (zt4 184 rfl rfl), lm_X11_chain.1, lm_X11_chain.2.1, lm_X11_chain.2.2.1, lm_X11_chain.2.2.2⟩, li_X11_chain⟩
theorem lk_L_137 : zLV RL 137 yX12_chain mi_X12_chain 0 := ⟨⟨zgw (zt8 135 rfl rfl), lm_X12_chain.1, lm_X12_chain.2.1, lm_X12_chain.2.2.1, lm_X12_chain.2.2.2⟩, li_X12_chain⟩
theorem lk_L_138 : zLV RL 138 yX11_chainAt mi_X11_chainAt 1 := ⟨⟨zgw (zt4 199 rfl rfl), lm_X11_chainAt.1, lm_X11_chainAt.2.1, lm_X11_chainAt.2.2.1, lm_X11_chainAt.2.2.2⟩, li_X11_chainAt⟩
theorem lk_L_141 : zLV RL 141 yX12_chainAt mi_X12_chainAt 1 := ⟨⟨zgw (zt8 143 rfl rfl), lm_X12_chainAt.1, lm_X12_chainAt.2.1, lm_X12_chainAt.2.2.1, lm_X12_chainAt.2.2.2⟩, li_X12_chainAt⟩
theorem lk_L_142 : zLV RL 142 yX11_load mi_X11_load 2 := ⟨⟨zgw (zt4 203 rfl rfl), lm_X11_load.1, lm_X11_load.2.1, lm_X11_load.2.2.1, lm_X11_load.2.2.2⟩, li_X11_load⟩
theorem lk_L_145 : zLV RL 145 yX12_load mi_X12_load 2 := ⟨⟨zgw (zt8 35 rfl rfl), lm_X12_load.1, lm_X12_load.2.1, lm_X12_load.2.2.1, lm_X12_load.2.2.2⟩, li_X12_load⟩
theorem lk_L_146 : zLV RL 146 yX11_block mi_X11_block 1 := ⟨⟨zgw (zt4 208 rfl rfl), lm_X11_block.1, lm_X11_block.2.1, lm_X11_block.2.2.1, lm_X11_block.2.2.2⟩, li_X11_block⟩
theorem lk_L_149 : zLV RL 149 yX12_block mi_X12_block 1 := ⟨⟨zgw (zt8 147 rfl rfl), lm_X12_block.1, lm_X12_block.2.1, lm_X12_block.2.2.1, lm_X12_block.2.2.2⟩, li_X12_block⟩
theorem lk_L_152 : zLV RL 152 yX12_wear mi_X12_wear 2 := ⟨⟨zgw (zt8 151 rfl rfl), lm_X12_wear.1, lm_X12_wear.2.1, lm_X12_wear.2.2.1, lm_X12_wear.2.2.2⟩, li_X12_wear⟩
theorem lk_L_156 : zLV RL 156 yX12_mean mi_X12_mean 1 := ⟨⟨zgw (zt8 162 rfl rfl), lm_X12_mean.1, lm_X12_mean.2.1, lm_X12_mean.2.2.1, lm_X12_mean.2.2.2⟩, li_X12_mean⟩
theorem lk_L_157 : zLV RL 157 yX11_often mi_X11_often 0 := ⟨⟨zgw (zt4 218 rfl rfl), lm_X11_often.1, lm_X11_often.2.1, lm_X11_often.2.2.1, lm_X11_often.2.2.2⟩, li_X11_often⟩
theorem lk_L_160 : zLV RL 160 yX12_often mi_X12_often 0 := ⟨⟨zgw (zt8 166 rfl rfl), lm_X12_often.1, lm_X12_often.2.1, lm_X12_often.2.2.1, lm_X12_often.2.2.2⟩, li_X12_often⟩
theorem lk_L_161 : zLV RL 161 yX11_tag mi_X11_tag 1 := ⟨⟨zgw (zt4 226 rfl rfl), lm_X11_tag.1, lm_X11_tag.2.1, lm_X11_tag.2.2.1, lm_X11_tag.2.2.2⟩, li_X11_tag⟩
theorem lk_L_164 : zLV RL 164 yX12_tag mi_X12_tag 1 := ⟨⟨zgw (zt8 170 rfl rfl), lm_X12_tag.1, lm_X12_tag.2.1, lm_X12_tag.2.2.1, lm_X12_tag.2.2.2⟩, li_X12_tag⟩
theorem lk_L_165 : zLV RL 165 yX11_byteAt mi_X11_byteAt 1 := ⟨⟨zgw (zt5 26 rfl rfl), lm_X11_byteAt.1, lm_X11_byteAt.2.1, lm_X11_byteAt.2.2.1, lm_X11_byteAt.2.2.2⟩, li_X11_byteAt⟩
theorem lk_L_168 : zLV RL 168 yX12_byteAt mi_X12_byteAt 1 := ⟨⟨zgw (zt8 190 rfl rfl), lm_X12_byteAt.1, lm_X12_byteAt.2.1, lm_X12_byteAt.2.2.1, lm_X12_byteAt.2.2.2⟩, li_X12_byteAt⟩
theorem lk_L_169 : zLV RL 169 yX11_drawn mi_X11_drawn 2 := ⟨⟨zgw (zt5 30 rfl rfl), lm_X11_drawn.1, lm_X11_drawn.2.1, lm_X11_drawn.2.2.1, lm_X11_drawn.2.2.2⟩, li_X11_drawn⟩
theorem lk_L_172 : zLV RL 172 yX12_drawn mi_X12_drawn 2 := ⟨⟨zgw (zt8 194 rfl rfl), lm_X12_drawn.1, lm_X12_drawn.2.1, lm_X12_drawn.2.2.1, lm_X12_drawn.2.2.2⟩, li_X12_drawn⟩
theorem lk_L_173 : zLV RL 173 yX11_odds mi_X11_odds 3 := ⟨⟨zgw (zt5 53 rfl rfl), lm_X11_odds.1, lm_X11_odds.2.1, lm_X11_odds.2.2.1, lm_X11_odds.2.2.2⟩, li_X11_odds⟩
theorem lk_L_177 : zLV RL 177 yX12_odds mi_X12_odds 3 := ⟨⟨zgw (zt8 215 rfl rfl), lm_X12_odds.1, lm_X12_odds.2.1, lm_X12_odds.2.2.1, lm_X12_odds.2.2.2⟩, li_X12_odds⟩
theorem lk_L_178 : zLV RL 178 yX11_book mi_X11_book 1 := ⟨⟨zgw (zt5 57 rfl rfl), lm_X11_book.1, lm_X11_book.2.1, lm_X11_book.2.2.1, lm_X11_book.2.2.2⟩, li_X11_book⟩
theorem lk_L_181 : zLV RL 181 yX12_book mi_X12_book 1 := ⟨⟨zgw (zt8 219 rfl rfl), lm_X12_book.1, lm_X12_book.2.1, lm_X12_book.2.2.1, lm_X12_book.2.2.2⟩, li_X12_book⟩
theorem lk_L_182 : zLV RL 182 yX11_told mi_X11_told 1 := ⟨⟨zgw (zt5 93 rfl rfl), lm_X11_told.1, lm_X11_told.2.1, lm_X11_told.2.2.1, lm_X11_told.2.2.2⟩, li_X11_told⟩
theorem lk_L_185 : zLV RL 185 yX12_told mi_X12_told 1 := ⟨⟨zgw (zt9 7 rfl rfl), lm_X12_told.1, lm_X12_told.2.1, lm_X12_told.2.2.1, lm_X12_told.2.2.2⟩, li_X12_told⟩
theorem lk_L_186 : zLV RL 186 yX11_sentence mi_X11_sentence 0 := ⟨⟨zgw (zt5 101 rfl rfl), lm_X11_sentence.1, lm_X11_sentence.2.1, lm_X11_sentence.2.2.1, lm_X11_sentence.2.2.2⟩, li_X11_sentence⟩
theorem lk_L_189 : zLV RL 189 yX12_sentence mi_X12_sentence 0 := ⟨⟨zgw (zt9 11 rfl rfl), lm_X12_sentence.1, lm_X12_sentence.2.1, lm_X12_sentence.2.2.1, lm_X12_sentence.2.2.2⟩, li_X12_sentence⟩
theorem lk_L_190 : zLV RL 190 yX11_said mi_X11_said 1 := ⟨⟨zgw (zt5 143 rfl rfl), lm_X11_said.1, lm_X11_said.2.1, lm_X11_said.2.2.1, lm_X11_said.2.2.2⟩, li_X11_said⟩
theorem lk_L_193 : zLV RL 193 yX12_said mi_X12_said 1 := ⟨⟨zgw (zt9 51 rfl rfl), lm_X12_said.1, lm_X12_said.2.1, lm_X12_said.2.2.1, lm_X12_said.2.2.2⟩, li_X12_said⟩
theorem lk_L_194 : zLV RL 194 yX11_image mi_X11_image 1 := ⟨⟨zgw (zt5 179 rfl rfl), lm_X11_image.1, lm_X11_image.2.1, lm_X11_image.2.2.1, lm_X11_image.2.2.2⟩, li_X11_image⟩
theorem lk_L_197 : zLV RL 197 yX12_image mi_X12_image 1 := ⟨⟨zgw (zt9 59 rfl rfl), lm_X12_image.1, lm_X12_image.2.1, lm_X12_image.2.2.1, lm_X12_image.2.2.2⟩, li_X12_image⟩
theorem lk_L_198 : zLV RL 198 yX11_restore mi_X11_restore 1 := ⟨⟨zgw (zt5 190 rfl rfl), lm_X11_restore.1, lm_X11_restore.2.1, lm_X11_restore.2.2.1, lm_X11_restore.2.2.2⟩, li_X11_restore⟩
theorem lk_L_201 : zLV RL 201 yX12_restore mi_X12_restore 1 := ⟨⟨zgw (zt9 63 rfl rfl), lm_X12_restore.1, lm_X12_restore.2.1, lm_X12_restore.2.2.1, lm_X12_restore.2.2.2⟩, li_X12_restore⟩
theorem lk_L_202 : zLV RL 202 yX11_count mi_X11_count 1 := ⟨⟨zgw (zt5 199 rfl rfl), lm_X11_count.1, lm_X11_count.2.1, lm_X11_count.2.2.1, lm_X11_count.2.2.2⟩, li_X11_count⟩
theorem lk_L_205 : zLV RL 205 yX12_count mi_X12_count 1 := ⟨⟨zgw (zt9 67 rfl rfl), lm_X12_count.1, lm_X12_count.2.1, lm_X12_count.2.2.1, lm_X12_count.2.2.2⟩, li_X12_count⟩
def mi_L_law : zMI := (RL, cL_law, 7, some .boolean, 118, 2860, 601024, 7293034)
def mf_L_loop (R : zRR) (a1 a2 a3 L : Nat) (xs : Nat → Int32) : Nat → Int32 → zMem → Option (Int32 × zMem)
  | 0, _, _ => none
  | fuel + 1, i4, M =>
    if ((Int32.ofNat L) - (6 : Int32)) < i4 then
      (some ((1 : Int32), M))
    else
      (zald L i4 fun j2 =>
      if ((xs j2) &&& (63 : Int32)) = 0 then
        (zald L (i4 + (1 : Int32)) fun j4 =>
        zald L (i4 + (2 : Int32)) fun j5 =>
        zald L (i4 + (3 : Int32)) fun j6 =>
        zald L (i4 + (4 : Int32)) fun j7 =>
        zald L (i4 + (5 : Int32)) fun j8 =>
        zcl (mf_X11_feed R a1 (xs j4) (xs j5) (xs j6) (xs j7) (xs j8) M) fun r10 M9 =>
        zald L (i4 + (1 : Int32)) fun j11 =>
        zald L (i4 + (2 : Int32)) fun j12 =>
        zald L (i4 + (3 : Int32)) fun j13 =>
        zald L (i4 + (4 : Int32)) fun j14 =>
        zald L (i4 + (5 : Int32)) fun j15 =>
        zcl (mf_X12_feed R a2 (xs j11) (xs j12) (xs j13) (xs j14) (xs j15) M9) fun r17 M16 =>
        if r10 = r17 then
          (mf_L_loop R a1 a2 a3 L xs fuel (i4 + 6) M16)
        else
          (none))
      else
      if ((xs j2) &&& (63 : Int32)) = 1 then
        (zald L (i4 + (1 : Int32)) fun j20 =>
        zcl (mf_X11_end R a1 (xs j20) M) fun r22 M21 =>
        zald L (i4 + (1 : Int32)) fun j23 =>
        zcl (mf_X12_end R a2 (xs j23) M21) fun r25 M24 =>
        if r22 = r25 then
          (mf_L_loop R a1 a2 a3 L xs fuel (i4 + 6) M24)
        else
          (none))
      else
      if ((xs j2) &&& (63 : Int32)) = 2 then
        (zcl (mf_X11_room R a1 M) fun r29 M28 =>
        zcl (mf_X12_room R a2 M28) fun r31 M30 =>
        if r29 = r31 then
          (mf_L_loop R a1 a2 a3 L xs fuel (i4 + 6) M30)
        else
          (none))
      else
      if ((xs j2) &&& (63 : Int32)) = 3 then
        (zcl (mf_X11_fault R a1 M) fun r35 M34 =>
        zcl (mf_X12_fault R a2 M34) fun r37 M36 =>
        if r35 = r37 then
          (mf_L_loop R a1 a2 a3 L xs fuel (i4 + 6) M36)
        else
          (none))
      else
      if ((xs j2) &&& (63 : Int32)) = 4 then
        (zald L (i4 + (1 : Int32)) fun j40 =>
        zald L (i4 + (2 : Int32)) fun j41 =>
        zcl (mf_X11_bath R a1 (xs j40) (xs j41) M) fun r43 M42 =>
        zald L (i4 + (1 : Int32)) fun j44 =>
        zald L (i4 + (2 : Int32)) fun j45 =>
        zcl (mf_X12_bath R a2 (xs j44) (xs j45) M42) fun r47 M46 =>
        if r43 = r47 then
          (mf_L_loop R a1 a2 a3 L xs fuel (i4 + 6) M46)
        else
          (none))
      else
      if ((xs j2) &&& (63 : Int32)) = 5 then
        (zald L (i4 + (1 : Int32)) fun j50 =>
        zald L (i4 + (2 : Int32)) fun j51 =>
        zcl (mf_X11_asks R a1 (xs j50) (xs j51) M) fun r53 M52 =>
        zald L (i4 + (1 : Int32)) fun j54 =>
        zald L (i4 + (2 : Int32)) fun j55 =>
        zcl (mf_X12_asks R a2 (xs j54) (xs j55) M52) fun r57 M56 =>
        if r53 = r57 then
          (mf_L_loop R a1 a2 a3 L xs fuel (i4 + 6) M56)
        else
          (none))
      else
      if ((xs j2) &&& (63 : Int32)) = 6 then
        (zald L (i4 + (1 : Int32)) fun j60 =>
        zald L (i4 + (2 : Int32)) fun j61 =>
        zcl (mf_L_sheet R a1 (xs j60) (xs j61) a3 M) fun r63 M62 =>
        zald L (i4 + (1 : Int32)) fun j64 =>
        zald L (i4 + (2 : Int32)) fun j65 =>
        zcl (mf_X12_sheet R a2 (xs j64) (xs j65) M62) fun r67 M66 =>
        zcl (mf_X12_thrown R a2 M66) fun r69 M68 =>
        if r69 = r63 then
          (if r63 = 0 then
            (zald 1 (0 : Int32) fun j72 =>
            if (lg_cmp (M68.2 a3 j72) r67.toInt64) = 0 then
              (mf_L_loop R a1 a2 a3 L xs fuel (i4 + 6) M68)
            else
              (none))
          else
            (mf_L_loop R a1 a2 a3 L xs fuel (i4 + 6) M68))
        else
          (none))
      else
      if ((xs j2) &&& (63 : Int32)) = 7 then
        (zald L (i4 + (1 : Int32)) fun j75 =>
        zcl (mf_X11_now R a1 (xs j75) M) fun r77 M76 =>
        zald L (i4 + (1 : Int32)) fun j78 =>
        zcl (mf_X12_now R a2 (xs j78) M76) fun r80 M79 =>
        if r77 = r80 then
          (mf_L_loop R a1 a2 a3 L xs fuel (i4 + 6) M79)
        else
          (none))
      else
      if ((xs j2) &&& (63 : Int32)) = 8 then
        (zald L (i4 + (1 : Int32)) fun j83 =>
        zcl (mf_X11_start R a1 (xs j83) M) fun r85 M84 =>
        zald L (i4 + (1 : Int32)) fun j86 =>
        zcl (mf_X12_start R a2 (xs j86) M84) fun r88 M87 =>
        if r85 = r88 then
          (mf_L_loop R a1 a2 a3 L xs fuel (i4 + 6) M87)
        else
          (none))
      else
      if ((xs j2) &&& (63 : Int32)) = 9 then
        (zald L (i4 + (1 : Int32)) fun j91 =>
        zcl (mf_X11_take R a1 (xs j91) M) fun r93 M92 =>
        zald L (i4 + (1 : Int32)) fun j94 =>
        zcl (mf_X12_take_ R a2 (xs j94) M92) fun r96 M95 =>
        if r93 = r96 then
          (mf_L_loop R a1 a2 a3 L xs fuel (i4 + 6) M95)
        else
          (none))
      else
      if ((xs j2) &&& (63 : Int32)) = 10 then
        (zald L (i4 + (1 : Int32)) fun j99 =>
        zcl (mf_X11_again R a1 (xs j99) M) fun r101 M100 =>
        zald L (i4 + (1 : Int32)) fun j102 =>
        zcl (mf_X12_again R a2 (xs j102) M100) fun r104 M103 =>
        if r101 = r104 then
          (mf_L_loop R a1 a2 a3 L xs fuel (i4 + 6) M103)
        else
          (none))
      else
      if ((xs j2) &&& (63 : Int32)) = 11 then
        (zald L (i4 + (1 : Int32)) fun j107 =>
        zcl (mf_X11_renew R a1 (xs j107) M) fun r109 M108 =>
        zald L (i4 + (1 : Int32)) fun j110 =>
        zcl (mf_X12_renew R a2 (xs j110) M108) fun r112 M111 =>
        if r109 = r112 then
          (mf_L_loop R a1 a2 a3 L xs fuel (i4 + 6) M111)
        else
          (none))
      else
      if ((xs j2) &&& (63 : Int32)) = 12 then
        (zald L (i4 + (1 : Int32)) fun j115 =>
        zcl (mf_X11_minutes R a1 (xs j115) M) fun r117 M116 =>
        zald L (i4 + (1 : Int32)) fun j118 =>
        zcl (mf_X12_minutes R a2 (xs j118) M116) fun r120 M119 =>
        if r117 = r120 then
          (mf_L_loop R a1 a2 a3 L xs fuel (i4 + 6) M119)
        else
          (none))
      else
      if ((xs j2) &&& (63 : Int32)) = 13 then
        (zcl (mf_X11_undo R a1 M) fun r124 M123 =>
        zcl (mf_X12_undo R a2 M123) fun r126 M125 =>
        if r124 = r126 then
          (mf_L_loop R a1 a2 a3 L xs fuel (i4 + 6) M125)
        else
          (none))
      else
      if ((xs j2) &&& (63 : Int32)) = 14 then
        (zald L (i4 + (1 : Int32)) fun j129 =>
        zcl (mf_X11_when R a1 (xs j129) M) fun r131 M130 =>
        zald L (i4 + (1 : Int32)) fun j132 =>
        zcl (mf_X12_when R a2 (xs j132) M130) fun r134 M133 =>
        if r131 = r134 then
          (mf_L_loop R a1 a2 a3 L xs fuel (i4 + 6) M133)
        else
          (none))
      else
      if ((xs j2) &&& (63 : Int32)) = 15 then
        (zald L (i4 + (1 : Int32)) fun j137 =>
        zcl (mf_X11_clear R a1 (xs j137) M) fun r139 M138 =>
        zald L (i4 + (1 : Int32)) fun j140 =>
        zcl (mf_X12_clear R a2 (xs j140) M138) fun r142 M141 =>
        if r139 = r142 then
          (mf_L_loop R a1 a2 a3 L xs fuel (i4 + 6) M141)
        else
          (none))
      else
      if ((xs j2) &&& (63 : Int32)) = 16 then
        (zcl (mf_X11_order R a1 M) fun r146 M145 =>
        zcl (mf_X12_order R a2 M145) fun r148 M147 =>
        if r146 = r148 then
          (mf_L_loop R a1 a2 a3 L xs fuel (i4 + 6) M147)
        else
          (none))
      else
      if ((xs j2) &&& (63 : Int32)) = 17 then
        (zald L (i4 + (1 : Int32)) fun j151 =>
        zcl (mf_X11_orderAt R a1 (xs j151) M) fun r153 M152 =>
        zald L (i4 + (1 : Int32)) fun j154 =>
        zcl (mf_X12_orderAt R a2 (xs j154) M152) fun r156 M155 =>
        if r153 = r156 then
          (mf_L_loop R a1 a2 a3 L xs fuel (i4 + 6) M155)
        else
          (none))
      else
      if ((xs j2) &&& (63 : Int32)) = 18 then
        (zald L (i4 + (1 : Int32)) fun j159 =>
        zcl (mf_X11_orderWhen R a1 (xs j159) M) fun r161 M160 =>
        zald L (i4 + (1 : Int32)) fun j162 =>
        zcl (mf_X12_orderWhen R a2 (xs j162) M160) fun r164 M163 =>
        if r161 = r164 then
          (mf_L_loop R a1 a2 a3 L xs fuel (i4 + 6) M163)
        else
          (none))
      else
      if ((xs j2) &&& (63 : Int32)) = 19 then
        (zcl (mf_X11_jam R a1 M) fun r168 M167 =>
        zcl (mf_X12_jam R a2 M167) fun r170 M169 =>
        if r168 = r170 then
          (mf_L_loop R a1 a2 a3 L xs fuel (i4 + 6) M169)
        else
          (none))
      else
      if ((xs j2) &&& (63 : Int32)) = 20 then
        (zcl (mf_X11_who R a1 M) fun r174 M173 =>
        zcl (mf_X12_who R a2 M173) fun r176 M175 =>
        if r174 = r176 then
          (mf_L_loop R a1 a2 a3 L xs fuel (i4 + 6) M175)
        else
          (none))
      else
      if ((xs j2) &&& (63 : Int32)) = 21 then
        (zcl (mf_X11_ask R a1 M) fun r180 M179 =>
        zcl (mf_X12_ask R a2 M179) fun r182 M181 =>
        if r180 = r182 then
          (mf_L_loop R a1 a2 a3 L xs fuel (i4 + 6) M181)
        else
          (none))
      else
      if ((xs j2) &&& (63 : Int32)) = 22 then
        (zald L (i4 + (1 : Int32)) fun j185 =>
        zcl (mf_X11_near R a1 (xs j185) M) fun r187 M186 =>
        zald L (i4 + (1 : Int32)) fun j188 =>
        zcl (mf_X12_near R a2 (xs j188) M186) fun r190 M189 =>
        if r187 = r190 then
          (mf_L_loop R a1 a2 a3 L xs fuel (i4 + 6) M189)
        else
          (none))
      else
      if ((xs j2) &&& (63 : Int32)) = 23 then
        (zald L (i4 + (1 : Int32)) fun j193 =>
        zcl (mf_X11_through R a1 (xs j193) M) fun r195 M194 =>
        zald L (i4 + (1 : Int32)) fun j196 =>
        zcl (mf_X12_through R a2 (xs j196) M194) fun r198 M197 =>
        if r195 = r198 then
          (mf_L_loop R a1 a2 a3 L xs fuel (i4 + 6) M197)
        else
          (none))
      else
      if ((xs j2) &&& (63 : Int32)) = 24 then
        (zald L (i4 + (1 : Int32)) fun j201 =>
        zald L (i4 + (2 : Int32)) fun j202 =>
        zcl (mf_X11_gap R a1 (xs j201) (xs j202) M) fun r204 M203 =>
        zald L (i4 + (1 : Int32)) fun j205 =>
        zald L (i4 + (2 : Int32)) fun j206 =>
        zcl (mf_X12_gap R a2 (xs j205) (xs j206) M203) fun r208 M207 =>
        if r204 = r208 then
          (mf_L_loop R a1 a2 a3 L xs fuel (i4 + 6) M207)
        else
          (none))
      else
      if ((xs j2) &&& (63 : Int32)) = 25 then
        (zcl (mf_X11_chain R a1 M) fun r212 M211 =>
        zcl (mf_X12_chain R a2 M211) fun r214 M213 =>
        if r212 = r214 then
          (mf_L_loop R a1 a2 a3 L xs fuel (i4 + 6) M213)
        else
          (none))
      else
      if ((xs j2) &&& (63 : Int32)) = 26 then
        (zald L (i4 + (1 : Int32)) fun j217 =>
        zcl (mf_X11_chainAt R a1 (xs j217) M) fun r219 M218 =>
        zald L (i4 + (1 : Int32)) fun j220 =>
        zcl (mf_X12_chainAt R a2 (xs j220) M218) fun r222 M221 =>
        if r219 = r222 then
          (mf_L_loop R a1 a2 a3 L xs fuel (i4 + 6) M221)
        else
          (none))
      else
      if ((xs j2) &&& (63 : Int32)) = 27 then
        (zald L (i4 + (1 : Int32)) fun j225 =>
        zald L (i4 + (2 : Int32)) fun j226 =>
        zcl (mf_X11_load R a1 (xs j225) (xs j226) M) fun r228 M227 =>
        zald L (i4 + (1 : Int32)) fun j229 =>
        zald L (i4 + (2 : Int32)) fun j230 =>
        zcl (mf_X12_load R a2 (xs j229) (xs j230) M227) fun r232 M231 =>
        if r228 = r232 then
          (mf_L_loop R a1 a2 a3 L xs fuel (i4 + 6) M231)
        else
          (none))
      else
      if ((xs j2) &&& (63 : Int32)) = 28 then
        (zald L (i4 + (1 : Int32)) fun j235 =>
        zcl (mf_X11_block R a1 (xs j235) M) fun r237 M236 =>
        zald L (i4 + (1 : Int32)) fun j238 =>
        zcl (mf_X12_block R a2 (xs j238) M236) fun r240 M239 =>
        if r237 = r240 then
          (mf_L_loop R a1 a2 a3 L xs fuel (i4 + 6) M239)
        else
          (none))
      else
      if ((xs j2) &&& (63 : Int32)) = 29 then
        (zald L (i4 + (1 : Int32)) fun j243 =>
        zald L (i4 + (2 : Int32)) fun j244 =>
        zcl (mf_L_wear R a1 (xs j243) (xs j244) a3 M) fun r246 M245 =>
        zald L (i4 + (1 : Int32)) fun j247 =>
        zald L (i4 + (2 : Int32)) fun j248 =>
        zcl (mf_X12_wear R a2 (xs j247) (xs j248) M245) fun r250 M249 =>
        zcl (mf_X12_thrown R a2 M249) fun r252 M251 =>
        if r252 = r246 then
          (if r246 = 0 then
            (zald 1 (0 : Int32) fun j255 =>
            if (lg_cmp (M251.2 a3 j255) r250.toInt64) = 0 then
              (mf_L_loop R a1 a2 a3 L xs fuel (i4 + 6) M251)
            else
              (none))
          else
            (mf_L_loop R a1 a2 a3 L xs fuel (i4 + 6) M251))
        else
          (none))
      else
      if ((xs j2) &&& (63 : Int32)) = 30 then
        (zald L (i4 + (1 : Int32)) fun j258 =>
        zcl (mf_L_mean R a1 (xs j258) a3 M) fun r260 M259 =>
        zald L (i4 + (1 : Int32)) fun j261 =>
        zcl (mf_X12_mean R a2 (xs j261) M259) fun r263 M262 =>
        zcl (mf_X12_thrown R a2 M262) fun r265 M264 =>
        if r265 = r260 then
          (if r260 = 0 then
            (zald 1 (0 : Int32) fun j268 =>
            if (lg_cmp (M264.2 a3 j268) r263.toInt64) = 0 then
              (mf_L_loop R a1 a2 a3 L xs fuel (i4 + 6) M264)
            else
              (none))
          else
            (mf_L_loop R a1 a2 a3 L xs fuel (i4 + 6) M264))
        else
          (none))
      else
      if ((xs j2) &&& (63 : Int32)) = 31 then
        (zcl (mf_X11_often R a1 M) fun r272 M271 =>
        zcl (mf_X12_often R a2 M271) fun r274 M273 =>
        if r272 = r274 then
          (mf_L_loop R a1 a2 a3 L xs fuel (i4 + 6) M273)
        else
          (none))
      else
      if ((xs j2) &&& (63 : Int32)) = 32 then
        (zald L (i4 + (1 : Int32)) fun j277 =>
        zcl (mf_X11_tag R a1 (xs j277) M) fun r279 M278 =>
        zald L (i4 + (1 : Int32)) fun j280 =>
        zcl (mf_X12_tag R a2 (xs j280) M278) fun r282 M281 =>
        if r279 = r282 then
          (mf_L_loop R a1 a2 a3 L xs fuel (i4 + 6) M281)
        else
          (none))
      else
      if ((xs j2) &&& (63 : Int32)) = 33 then
        (zald L (i4 + (1 : Int32)) fun j285 =>
        zcl (mf_X11_byteAt R a1 (xs j285) M) fun r287 M286 =>
        zald L (i4 + (1 : Int32)) fun j288 =>
        zcl (mf_X12_byteAt R a2 (xs j288) M286) fun r290 M289 =>
        if r287 = r290 then
          (mf_L_loop R a1 a2 a3 L xs fuel (i4 + 6) M289)
        else
          (none))
      else
      if ((xs j2) &&& (63 : Int32)) = 34 then
        (zald L (i4 + (1 : Int32)) fun j293 =>
        zald L (i4 + (2 : Int32)) fun j294 =>
        zcl (mf_X11_drawn R a1 (xs j293) (xs j294) M) fun r296 M295 =>
        zald L (i4 + (1 : Int32)) fun j297 =>
        zald L (i4 + (2 : Int32)) fun j298 =>
        zcl (mf_X12_drawn R a2 (xs j297) (xs j298) M295) fun r300 M299 =>
        if r296 = r300 then
          (mf_L_loop R a1 a2 a3 L xs fuel (i4 + 6) M299)
        else
          (none))
      else
      if ((xs j2) &&& (63 : Int32)) = 35 then
        (zald L (i4 + (1 : Int32)) fun j303 =>
        zald L (i4 + (2 : Int32)) fun j304 =>
        zald L (i4 + (3 : Int32)) fun j305 =>
        zcl (mf_X11_odds R a1 (xs j303) (xs j304) (xs j305) M) fun r307 M306 =>
        zald L (i4 + (1 : Int32)) fun j308 =>
        zald L (i4 + (2 : Int32)) fun j309 =>
        zald L (i4 + (3 : Int32)) fun j310 =>
        zcl (mf_X12_odds R a2 (xs j308) (xs j309) (xs j310) M306) fun r312 M311 =>
        if r307 = r312 then
          (mf_L_loop R a1 a2 a3 L xs fuel (i4 + 6) M311)
        else
          (none))
      else
      if ((xs j2) &&& (63 : Int32)) = 36 then
        (zald L (i4 + (1 : Int32)) fun j315 =>
        zcl (mf_X11_book R a1 (xs j315) M) fun r317 M316 =>
        zald L (i4 + (1 : Int32)) fun j318 =>
        zcl (mf_X12_book R a2 (xs j318) M316) fun r320 M319 =>
        if r317 = r320 then
          (mf_L_loop R a1 a2 a3 L xs fuel (i4 + 6) M319)
        else
          (none))
      else
      if ((xs j2) &&& (63 : Int32)) = 37 then
        (zald L (i4 + (1 : Int32)) fun j323 =>
        zcl (mf_X11_told R a1 (xs j323) M) fun r325 M324 =>
        zald L (i4 + (1 : Int32)) fun j326 =>
        zcl (mf_X12_told R a2 (xs j326) M324) fun r328 M327 =>
        if r325 = r328 then
          (mf_L_loop R a1 a2 a3 L xs fuel (i4 + 6) M327)
        else
          (none))
      else
      if ((xs j2) &&& (63 : Int32)) = 38 then
        (zcl (mf_X11_sentence R a1 M) fun r332 M331 =>
        zcl (mf_X12_sentence R a2 M331) fun r334 M333 =>
        if r332 = r334 then
          (mf_L_loop R a1 a2 a3 L xs fuel (i4 + 6) M333)
        else
          (none))
      else
      if ((xs j2) &&& (63 : Int32)) = 39 then
        (zald L (i4 + (1 : Int32)) fun j337 =>
        zcl (mf_X11_said R a1 (xs j337) M) fun r339 M338 =>
        zald L (i4 + (1 : Int32)) fun j340 =>
        zcl (mf_X12_said R a2 (xs j340) M338) fun r342 M341 =>
        if r339 = r342 then
          (mf_L_loop R a1 a2 a3 L xs fuel (i4 + 6) M341)
        else
          (none))
      else
      if ((xs j2) &&& (63 : Int32)) = 40 then
        (zald L (i4 + (1 : Int32)) fun j345 =>
        zcl (mf_X11_image R a1 (xs j345) M) fun r347 M346 =>
        zald L (i4 + (1 : Int32)) fun j348 =>
        zcl (mf_X12_image R a2 (xs j348) M346) fun r350 M349 =>
        if r347 = r350 then
          (mf_L_loop R a1 a2 a3 L xs fuel (i4 + 6) M349)
        else
          (none))
      else
      if ((xs j2) &&& (63 : Int32)) = 41 then
        (zald L (i4 + (1 : Int32)) fun j353 =>
        zcl (mf_X11_restore R a1 (xs j353) M) fun r355 M354 =>
        zald L (i4 + (1 : Int32)) fun j356 =>
        zcl (mf_X12_restore R a2 (xs j356) M354) fun r358 M357 =>
        if r355 = r358 then
          (mf_L_loop R a1 a2 a3 L xs fuel (i4 + 6) M357)
        else
          (none))
      else
      if ((xs j2) &&& (63 : Int32)) = 42 then
        (zald L (i4 + (1 : Int32)) fun j361 =>
        zcl (mf_X11_count R a1 (xs j361) M) fun r363 M362 =>
        zald L (i4 + (1 : Int32)) fun j364 =>
        zcl (mf_X12_count R a2 (xs j364) M362) fun r366 M365 =>
        if r363 = r366 then
          (mf_L_loop R a1 a2 a3 L xs fuel (i4 + 6) M365)
        else
          (none))
      else
        (mf_L_loop R a1 a2 a3 L xs fuel (i4 + 6) M))
set_option maxHeartbeats 40000000 in
set_option maxRecDepth 100000 in
theorem mt_L_loop {C : zCx} {ad : Nat → Nat} {T : zTT} {R : zRR} {Q : Int32 → zMem → State → Prop} {a1 a2 a3 L : Nat} {xs : Nat → Int32} (hst : (zl C).stackTraces = false) (hs : zScr C ad L xs) (h1 : zi11 T R a1) (h2 : zi12 T R a2) (h3 : T[a3]? = some (2, 1)) (hfin : ∀ (k n : Nat) (M : zMem), k ≤ 601024 → n ≤ 7293034 → zX C mi_L_law Q k n (some ((1 : Int32), M)) 1439 [] [.int 1] ad T R M) : ∀ (fuel k n : Nat) (_ : k + fuel ≤ 601024) (_ : n + 6 * fuel ≤ 7293034) (i4 : Int32) (M : zMem), zX C mi_L_law Q k n (mf_L_loop R a1 a2 a3 L xs fuel i4 M) 23 [(0, .ref (zBIG + 60)), (1, .ref a1), (2, .ref a2), (3, .ref a3), (4, .int i4)] [] ad T R M := by
  intro fuel
  induction fuel with
  | zero => intros; exact zx_none
  | succ fuel ih =>
    intro k n hk hn i4 M
    rw [mf_L_loop]
    refine zx_iload (zd me_L_law_0 13 rfl) 4 rfl ?_
    refine zx_aload_n (i := 0) (zd me_L_law_0 14 rfl) rfl 0 rfl ?_
    refine zx_slenL hs (zd me_L_law_0 15 rfl) ?_
    refine zx_bipush (v := 6) (zd me_L_law_0 16 rfl) (by decide) ?_
    refine zx_isub (zd me_L_law_0 17 rfl) ?_
    refine zx_icmp_gt (tgt := 1438) (zd me_L_law_0 18 rfl) (by decide) (fun c1 => ?_) (fun c1 => ?_)
    · refine zx_iconst (v := 1) (zd me_L_law_21 2 rfl) (by decide) ?_
      refine zx_loc [] rfl ?_
      exact hfin k n M (by omega) (by omega)
    · refine zx_aload_n (i := 0) (zd me_L_law_0 19 rfl) rfl 0 rfl ?_
      refine zx_iload (zd me_L_law_0 20 rfl) 4 rfl ?_
      refine zx_sld hs (zd me_L_law_0 21 rfl) (fun j2 => ?_)
      refine zx_bipush (v := 63) (zd me_L_law_0 22 rfl) (by decide) ?_
      refine zx_iand (zd me_L_law_0 23 rfl) ?_
      refine zx_ite (fun c3 => ?_) (fun c3 => ?_)
      · refine zx_tin (off := 188) (tgt := 228) (zd me_L_law_0 24 rfl) (by rw [c3]; decide) (by rw [c3]; decide) (by rw [c3]; rfl) (by decide) ?_
        refine zx_widen (k' := k + 1) (n' := n + 6) (by omega) (by omega) ⟨by show k + 1 ≤ 601024; omega, by show n + 6 ≤ 7293034; omega⟩ ?_
        refine zx_aload_n (i := 1) (zd me_L_law_0 25 rfl) rfl 1 rfl ?_
        refine zx_aload_n (i := 0) (zd me_L_law_0 26 rfl) rfl 0 rfl ?_
        refine zx_iload (zd me_L_law_0 27 rfl) 4 rfl ?_
        refine zx_iconst (v := 1) (zd me_L_law_0 28 rfl) (by decide) ?_
        refine zx_iadd (zd me_L_law_0 29 rfl) ?_
        refine zx_sld hs (zd me_L_law_0 30 rfl) (fun j4 => ?_)
        refine zx_aload_n (i := 0) (zd me_L_law_0 31 rfl) rfl 0 rfl ?_
        refine zx_iload (zd me_L_law_0 32 rfl) 4 rfl ?_
        refine zx_iconst (v := 2) (zd me_L_law_0 33 rfl) (by decide) ?_
        refine zx_iadd (zd me_L_law_0 34 rfl) ?_
        refine zx_sld hs (zd me_L_law_0 35 rfl) (fun j5 => ?_)
        refine zx_aload_n (i := 0) (zd me_L_law_0 36 rfl) rfl 0 rfl ?_
        refine zx_iload (zd me_L_law_0 37 rfl) 4 rfl ?_
        refine zx_iconst (v := 3) (zd me_L_law_0 38 rfl) (by decide) ?_
        refine zx_iadd (zd me_L_law_0 39 rfl) ?_
        refine zx_sld hs (zd me_L_law_1 0 rfl) (fun j6 => ?_)
        refine zx_aload_n (i := 0) (zd me_L_law_1 1 rfl) rfl 0 rfl ?_
        refine zx_iload (zd me_L_law_1 2 rfl) 4 rfl ?_
        refine zx_iconst (v := 4) (zd me_L_law_1 3 rfl) (by decide) ?_
        refine zx_iadd (zd me_L_law_1 4 rfl) ?_
        refine zx_sld hs (zd me_L_law_1 5 rfl) (fun j7 => ?_)
        refine zx_aload_n (i := 0) (zd me_L_law_1 6 rfl) rfl 0 rfl ?_
        refine zx_iload (zd me_L_law_1 7 rfl) 4 rfl ?_
        refine zx_iconst (v := 5) (zd me_L_law_1 8 rfl) (by decide) ?_
        refine zx_iadd (zd me_L_law_1 9 rfl) ?_
        refine zx_sld hs (zd me_L_law_1 10 rfl) (fun j8 => ?_)
        refine zx_callVI5 (zd me_L_law_1 11 rfl) (mc_X11_feed (zl C) h1 (xs j4) (xs j5) (xs j6) (xs j7) (xs j8) M) lk_L_26 ⟨(Nat.le_of_ble_eq_true rfl), (Nat.le_of_ble_eq_true rfl)⟩ (Nat.le_of_ble_eq_true rfl) (zi11_c h1) rfl (fun r10 M9 => ?_)
        refine zx_aload_n (i := 2) (zd me_L_law_1 12 rfl) rfl 2 rfl ?_
        refine zx_aload_n (i := 0) (zd me_L_law_1 13 rfl) rfl 0 rfl ?_
        refine zx_iload (zd me_L_law_1 14 rfl) 4 rfl ?_
        refine zx_iconst (v := 1) (zd me_L_law_1 15 rfl) (by decide) ?_
        refine zx_iadd (zd me_L_law_1 16 rfl) ?_
        refine zx_sld hs (zd me_L_law_1 17 rfl) (fun j11 => ?_)
        refine zx_aload_n (i := 0) (zd me_L_law_1 18 rfl) rfl 0 rfl ?_
        refine zx_iload (zd me_L_law_1 19 rfl) 4 rfl ?_
        refine zx_iconst (v := 2) (zd me_L_law_1 20 rfl) (by decide) ?_
        refine zx_iadd (zd me_L_law_1 21 rfl) ?_
        refine zx_sld hs (zd me_L_law_1 22 rfl) (fun j12 => ?_)
        refine zx_aload_n (i := 0) (zd me_L_law_1 23 rfl) rfl 0 rfl ?_
        refine zx_iload (zd me_L_law_1 24 rfl) 4 rfl ?_
        refine zx_iconst (v := 3) (zd me_L_law_1 25 rfl) (by decide) ?_
        refine zx_iadd (zd me_L_law_1 26 rfl) ?_
        refine zx_sld hs (zd me_L_law_1 27 rfl) (fun j13 => ?_)
        refine zx_aload_n (i := 0) (zd me_L_law_1 28 rfl) rfl 0 rfl ?_
        refine zx_iload (zd me_L_law_1 29 rfl) 4 rfl ?_
        refine zx_iconst (v := 4) (zd me_L_law_1 30 rfl) (by decide) ?_
        refine zx_iadd (zd me_L_law_1 31 rfl) ?_
        refine zx_sld hs (zd me_L_law_1 32 rfl) (fun j14 => ?_)
        refine zx_aload_n (i := 0) (zd me_L_law_1 33 rfl) rfl 0 rfl ?_
        refine zx_iload (zd me_L_law_1 34 rfl) 4 rfl ?_
        refine zx_iconst (v := 5) (zd me_L_law_1 35 rfl) (by decide) ?_
        refine zx_iadd (zd me_L_law_1 36 rfl) ?_
        refine zx_sld hs (zd me_L_law_1 37 rfl) (fun j15 => ?_)
        refine zx_callVI5 (zd me_L_law_1 38 rfl) (mc_X12_feed (zl C) h2 (xs j11) (xs j12) (xs j13) (xs j14) (xs j15) M9) lk_L_30 ⟨(Nat.le_of_ble_eq_true rfl), (Nat.le_of_ble_eq_true rfl)⟩ (Nat.le_of_ble_eq_true rfl) (zi12_c h2) rfl (fun r17 M16 => ?_)
        refine zx_icmp_eq (tgt := 1432) (zd me_L_law_1 39 rfl) (by decide) (fun c18 => ?_) (fun c18 => ?_)
        · refine zx_iinc (v := 6) (ls' := [(4, .int (i4 + 6)), (0, .ref (zBIG + 60)), (1, .ref a1), (2, .ref a2), (3, .ref a3)]) (zd me_L_law_21 0 rfl) (Nat.le_of_ble_eq_true rfl) 4 rfl (by decide) rfl ?_
          refine zx_goto (tgt := 23) (zd me_L_law_21 1 rfl) (by decide) ?_
          refine zx_loc [1, 2, 3, 4, 0] rfl ?_
          exact ih (k + 1) (n + 6) (by omega) (by omega) (i4 + 6) M16
        · refine zx_iconst (v := 0) (zd me_L_law_2 0 rfl) (by decide) ?_
          exact zx_none
      · refine zx_ite (fun c19 => ?_) (fun c19 => ?_)
        · refine zx_tin (off := 261) (tgt := 301) (zd me_L_law_0 24 rfl) (by rw [c19]; decide) (by rw [c19]; decide) (by rw [c19]; rfl) (by decide) ?_
          refine zx_widen (k' := k + 1) (n' := n + 6) (by omega) (by omega) ⟨by show k + 1 ≤ 601024; omega, by show n + 6 ≤ 7293034; omega⟩ ?_
          refine zx_aload_n (i := 1) (zd me_L_law_2 2 rfl) rfl 1 rfl ?_
          refine zx_aload_n (i := 0) (zd me_L_law_2 3 rfl) rfl 0 rfl ?_
          refine zx_iload (zd me_L_law_2 4 rfl) 4 rfl ?_
          refine zx_iconst (v := 1) (zd me_L_law_2 5 rfl) (by decide) ?_
          refine zx_iadd (zd me_L_law_2 6 rfl) ?_
          refine zx_sld hs (zd me_L_law_2 7 rfl) (fun j20 => ?_)
          refine zx_callVI1 (zd me_L_law_2 8 rfl) (mc_X11_end (zl C) h1 (xs j20) M) lk_L_31 ⟨(Nat.le_of_ble_eq_true rfl), (Nat.le_of_ble_eq_true rfl)⟩ (Nat.le_of_ble_eq_true rfl) (zi11_c h1) rfl (fun r22 M21 => ?_)
          refine zx_aload_n (i := 2) (zd me_L_law_2 9 rfl) rfl 2 rfl ?_
          refine zx_aload_n (i := 0) (zd me_L_law_2 10 rfl) rfl 0 rfl ?_
          refine zx_iload (zd me_L_law_2 11 rfl) 4 rfl ?_
          refine zx_iconst (v := 1) (zd me_L_law_2 12 rfl) (by decide) ?_
          refine zx_iadd (zd me_L_law_2 13 rfl) ?_
          refine zx_sld hs (zd me_L_law_2 14 rfl) (fun j23 => ?_)
          refine zx_callVI1 (zd me_L_law_2 15 rfl) (mc_X12_end (zl C) h2 (xs j23) M21) lk_L_35 ⟨(Nat.le_of_ble_eq_true rfl), (Nat.le_of_ble_eq_true rfl)⟩ (Nat.le_of_ble_eq_true rfl) (zi12_c h2) rfl (fun r25 M24 => ?_)
          refine zx_icmp_eq (tgt := 1432) (zd me_L_law_2 16 rfl) (by decide) (fun c26 => ?_) (fun c26 => ?_)
          · refine zx_iinc (v := 6) (ls' := [(4, .int (i4 + 6)), (0, .ref (zBIG + 60)), (1, .ref a1), (2, .ref a2), (3, .ref a3)]) (zd me_L_law_21 0 rfl) (Nat.le_of_ble_eq_true rfl) 4 rfl (by decide) rfl ?_
            refine zx_goto (tgt := 23) (zd me_L_law_21 1 rfl) (by decide) ?_
            refine zx_loc [1, 2, 3, 4, 0] rfl ?_
            exact ih (k + 1) (n + 6) (by omega) (by omega) (i4 + 6) M24
          · refine zx_iconst (v := 0) (zd me_L_law_2 17 rfl) (by decide) ?_
            exact zx_none
        · refine zx_ite (fun c27 => ?_) (fun c27 => ?_)
          · refine zx_tin (off := 286) (tgt := 326) (zd me_L_law_0 24 rfl) (by rw [c27]; decide) (by rw [c27]; decide) (by rw [c27]; rfl) (by decide) ?_
            refine zx_widen (k' := k + 1) (n' := n + 6) (by omega) (by omega) ⟨by show k + 1 ≤ 601024; omega, by show n + 6 ≤ 7293034; omega⟩ ?_
            refine zx_aload_n (i := 1) (zd me_L_law_2 19 rfl) rfl 1 rfl ?_
            refine zx_callVI0 (zd me_L_law_2 20 rfl) (mc_X11_room (zl C) h1 M) lk_L_36 ⟨(Nat.le_of_ble_eq_true rfl), (Nat.le_of_ble_eq_true rfl)⟩ (Nat.le_of_ble_eq_true rfl) (zi11_c h1) rfl (fun r29 M28 => ?_)
            refine zx_aload_n (i := 2) (zd me_L_law_2 21 rfl) rfl 2 rfl ?_
            refine zx_callVI0 (zd me_L_law_2 22 rfl) (mc_X12_room (zl C) h2 M28) lk_L_40 ⟨(Nat.le_of_ble_eq_true rfl), (Nat.le_of_ble_eq_true rfl)⟩ (Nat.le_of_ble_eq_true rfl) (zi12_c h2) rfl (fun r31 M30 => ?_)
            refine zx_icmp_eq (tgt := 1432) (zd me_L_law_2 23 rfl) (by decide) (fun c32 => ?_) (fun c32 => ?_)
            · refine zx_iinc (v := 6) (ls' := [(4, .int (i4 + 6)), (0, .ref (zBIG + 60)), (1, .ref a1), (2, .ref a2), (3, .ref a3)]) (zd me_L_law_21 0 rfl) (Nat.le_of_ble_eq_true rfl) 4 rfl (by decide) rfl ?_
              refine zx_goto (tgt := 23) (zd me_L_law_21 1 rfl) (by decide) ?_
              refine zx_loc [1, 2, 3, 4, 0] rfl ?_
              exact ih (k + 1) (n + 6) (by omega) (by omega) (i4 + 6) M30
            · refine zx_iconst (v := 0) (zd me_L_law_2 24 rfl) (by decide) ?_
              exact zx_none
          · refine zx_ite (fun c33 => ?_) (fun c33 => ?_)
            · refine zx_tin (off := 299) (tgt := 339) (zd me_L_law_0 24 rfl) (by rw [c33]; decide) (by rw [c33]; decide) (by rw [c33]; rfl) (by decide) ?_
              refine zx_widen (k' := k + 1) (n' := n + 6) (by omega) (by omega) ⟨by show k + 1 ≤ 601024; omega, by show n + 6 ≤ 7293034; omega⟩ ?_
              refine zx_aload_n (i := 1) (zd me_L_law_2 26 rfl) rfl 1 rfl ?_
              refine zx_callVI0 (zd me_L_law_2 27 rfl) (mc_X11_fault (zl C) h1 M) lk_L_41 ⟨(Nat.le_of_ble_eq_true rfl), (Nat.le_of_ble_eq_true rfl)⟩ (Nat.le_of_ble_eq_true rfl) (zi11_c h1) rfl (fun r35 M34 => ?_)
              refine zx_aload_n (i := 2) (zd me_L_law_2 28 rfl) rfl 2 rfl ?_
              refine zx_callVI0 (zd me_L_law_2 29 rfl) (mc_X12_fault (zl C) h2 M34) lk_L_44 ⟨(Nat.le_of_ble_eq_true rfl), (Nat.le_of_ble_eq_true rfl)⟩ (Nat.le_of_ble_eq_true rfl) (zi12_c h2) rfl (fun r37 M36 => ?_)
              refine zx_icmp_eq (tgt := 1432) (zd me_L_law_2 30 rfl) (by decide) (fun c38 => ?_) (fun c38 => ?_)
              · refine zx_iinc (v := 6) (ls' := [(4, .int (i4 + 6)), (0, .ref (zBIG + 60)), (1, .ref a1), (2, .ref a2), (3, .ref a3)]) (zd me_L_law_21 0 rfl) (Nat.le_of_ble_eq_true rfl) 4 rfl (by decide) rfl ?_
                refine zx_goto (tgt := 23) (zd me_L_law_21 1 rfl) (by decide) ?_
                refine zx_loc [1, 2, 3, 4, 0] rfl ?_
                exact ih (k + 1) (n + 6) (by omega) (by omega) (i4 + 6) M36
              · refine zx_iconst (v := 0) (zd me_L_law_2 31 rfl) (by decide) ?_
                exact zx_none
            · refine zx_ite (fun c39 => ?_) (fun c39 => ?_)
              · refine zx_tin (off := 312) (tgt := 352) (zd me_L_law_0 24 rfl) (by rw [c39]; decide) (by rw [c39]; decide) (by rw [c39]; rfl) (by decide) ?_
                refine zx_widen (k' := k + 1) (n' := n + 6) (by omega) (by omega) ⟨by show k + 1 ≤ 601024; omega, by show n + 6 ≤ 7293034; omega⟩ ?_
                refine zx_aload_n (i := 1) (zd me_L_law_2 33 rfl) rfl 1 rfl ?_
                refine zx_aload_n (i := 0) (zd me_L_law_2 34 rfl) rfl 0 rfl ?_
                refine zx_iload (zd me_L_law_2 35 rfl) 4 rfl ?_
                refine zx_iconst (v := 1) (zd me_L_law_2 36 rfl) (by decide) ?_
                refine zx_iadd (zd me_L_law_2 37 rfl) ?_
                refine zx_sld hs (zd me_L_law_2 38 rfl) (fun j40 => ?_)
                refine zx_aload_n (i := 0) (zd me_L_law_2 39 rfl) rfl 0 rfl ?_
                refine zx_iload (zd me_L_law_3 0 rfl) 4 rfl ?_
                refine zx_iconst (v := 2) (zd me_L_law_3 1 rfl) (by decide) ?_
                refine zx_iadd (zd me_L_law_3 2 rfl) ?_
                refine zx_sld hs (zd me_L_law_3 3 rfl) (fun j41 => ?_)
                refine zx_callVI2 (zd me_L_law_3 4 rfl) (mc_X11_bath (zl C) h1 (xs j40) (xs j41) M) lk_L_45 ⟨(Nat.le_of_ble_eq_true rfl), (Nat.le_of_ble_eq_true rfl)⟩ (Nat.le_of_ble_eq_true rfl) (zi11_c h1) rfl (fun r43 M42 => ?_)
                refine zx_aload_n (i := 2) (zd me_L_law_3 5 rfl) rfl 2 rfl ?_
                refine zx_aload_n (i := 0) (zd me_L_law_3 6 rfl) rfl 0 rfl ?_
                refine zx_iload (zd me_L_law_3 7 rfl) 4 rfl ?_
                refine zx_iconst (v := 1) (zd me_L_law_3 8 rfl) (by decide) ?_
                refine zx_iadd (zd me_L_law_3 9 rfl) ?_
                refine zx_sld hs (zd me_L_law_3 10 rfl) (fun j44 => ?_)
                refine zx_aload_n (i := 0) (zd me_L_law_3 11 rfl) rfl 0 rfl ?_
                refine zx_iload (zd me_L_law_3 12 rfl) 4 rfl ?_
                refine zx_iconst (v := 2) (zd me_L_law_3 13 rfl) (by decide) ?_
                refine zx_iadd (zd me_L_law_3 14 rfl) ?_
                refine zx_sld hs (zd me_L_law_3 15 rfl) (fun j45 => ?_)
                refine zx_callVI2 (zd me_L_law_3 16 rfl) (mc_X12_bath (zl C) h2 (xs j44) (xs j45) M42) lk_L_48 ⟨(Nat.le_of_ble_eq_true rfl), (Nat.le_of_ble_eq_true rfl)⟩ (Nat.le_of_ble_eq_true rfl) (zi12_c h2) rfl (fun r47 M46 => ?_)
                refine zx_icmp_eq (tgt := 1432) (zd me_L_law_3 17 rfl) (by decide) (fun c48 => ?_) (fun c48 => ?_)
                · refine zx_iinc (v := 6) (ls' := [(4, .int (i4 + 6)), (0, .ref (zBIG + 60)), (1, .ref a1), (2, .ref a2), (3, .ref a3)]) (zd me_L_law_21 0 rfl) (Nat.le_of_ble_eq_true rfl) 4 rfl (by decide) rfl ?_
                  refine zx_goto (tgt := 23) (zd me_L_law_21 1 rfl) (by decide) ?_
                  refine zx_loc [1, 2, 3, 4, 0] rfl ?_
                  exact ih (k + 1) (n + 6) (by omega) (by omega) (i4 + 6) M46
                · refine zx_iconst (v := 0) (zd me_L_law_3 18 rfl) (by decide) ?_
                  exact zx_none
              · refine zx_ite (fun c49 => ?_) (fun c49 => ?_)
                · refine zx_tin (off := 349) (tgt := 389) (zd me_L_law_0 24 rfl) (by rw [c49]; decide) (by rw [c49]; decide) (by rw [c49]; rfl) (by decide) ?_
                  refine zx_widen (k' := k + 1) (n' := n + 6) (by omega) (by omega) ⟨by show k + 1 ≤ 601024; omega, by show n + 6 ≤ 7293034; omega⟩ ?_
                  refine zx_aload_n (i := 1) (zd me_L_law_3 20 rfl) rfl 1 rfl ?_
                  refine zx_aload_n (i := 0) (zd me_L_law_3 21 rfl) rfl 0 rfl ?_
                  refine zx_iload (zd me_L_law_3 22 rfl) 4 rfl ?_
                  refine zx_iconst (v := 1) (zd me_L_law_3 23 rfl) (by decide) ?_
                  refine zx_iadd (zd me_L_law_3 24 rfl) ?_
                  refine zx_sld hs (zd me_L_law_3 25 rfl) (fun j50 => ?_)
                  refine zx_aload_n (i := 0) (zd me_L_law_3 26 rfl) rfl 0 rfl ?_
                  refine zx_iload (zd me_L_law_3 27 rfl) 4 rfl ?_
                  refine zx_iconst (v := 2) (zd me_L_law_3 28 rfl) (by decide) ?_
                  refine zx_iadd (zd me_L_law_3 29 rfl) ?_
                  refine zx_sld hs (zd me_L_law_3 30 rfl) (fun j51 => ?_)
                  refine zx_callVI2 (zd me_L_law_3 31 rfl) (mc_X11_asks (zl C) h1 (xs j50) (xs j51) M) lk_L_49 ⟨(Nat.le_of_ble_eq_true rfl), (Nat.le_of_ble_eq_true rfl)⟩ (Nat.le_of_ble_eq_true rfl) (zi11_c h1) rfl (fun r53 M52 => ?_)
                  refine zx_aload_n (i := 2) (zd me_L_law_3 32 rfl) rfl 2 rfl ?_
                  refine zx_aload_n (i := 0) (zd me_L_law_3 33 rfl) rfl 0 rfl ?_
                  refine zx_iload (zd me_L_law_3 34 rfl) 4 rfl ?_
                  refine zx_iconst (v := 1) (zd me_L_law_3 35 rfl) (by decide) ?_
                  refine zx_iadd (zd me_L_law_3 36 rfl) ?_
                  refine zx_sld hs (zd me_L_law_3 37 rfl) (fun j54 => ?_)
                  refine zx_aload_n (i := 0) (zd me_L_law_3 38 rfl) rfl 0 rfl ?_
                  refine zx_iload (zd me_L_law_3 39 rfl) 4 rfl ?_
                  refine zx_iconst (v := 2) (zd me_L_law_4 0 rfl) (by decide) ?_
                  refine zx_iadd (zd me_L_law_4 1 rfl) ?_
                  refine zx_sld hs (zd me_L_law_4 2 rfl) (fun j55 => ?_)
                  refine zx_callVI2 (zd me_L_law_4 3 rfl) (mc_X12_asks (zl C) h2 (xs j54) (xs j55) M52) lk_L_52 ⟨(Nat.le_of_ble_eq_true rfl), (Nat.le_of_ble_eq_true rfl)⟩ (Nat.le_of_ble_eq_true rfl) (zi12_c h2) rfl (fun r57 M56 => ?_)
                  refine zx_icmp_eq (tgt := 1432) (zd me_L_law_4 4 rfl) (by decide) (fun c58 => ?_) (fun c58 => ?_)
                  · refine zx_iinc (v := 6) (ls' := [(4, .int (i4 + 6)), (0, .ref (zBIG + 60)), (1, .ref a1), (2, .ref a2), (3, .ref a3)]) (zd me_L_law_21 0 rfl) (Nat.le_of_ble_eq_true rfl) 4 rfl (by decide) rfl ?_
                    refine zx_goto (tgt := 23) (zd me_L_law_21 1 rfl) (by decide) ?_
                    refine zx_loc [1, 2, 3, 4, 0] rfl ?_
                    exact ih (k + 1) (n + 6) (by omega) (by omega) (i4 + 6) M56
                  · refine zx_iconst (v := 0) (zd me_L_law_4 5 rfl) (by decide) ?_
                    exact zx_none
                · refine zx_ite (fun c59 => ?_) (fun c59 => ?_)
                  · refine zx_tin (off := 386) (tgt := 426) (zd me_L_law_0 24 rfl) (by rw [c59]; decide) (by rw [c59]; decide) (by rw [c59]; rfl) (by decide) ?_
                    refine zx_aload_n (i := 1) (zd me_L_law_4 7 rfl) rfl 1 rfl ?_
                    refine zx_aload_n (i := 0) (zd me_L_law_4 8 rfl) rfl 0 rfl ?_
                    refine zx_iload (zd me_L_law_4 9 rfl) 4 rfl ?_
                    refine zx_iconst (v := 1) (zd me_L_law_4 10 rfl) (by decide) ?_
                    refine zx_iadd (zd me_L_law_4 11 rfl) ?_
                    refine zx_sld hs (zd me_L_law_4 12 rfl) (fun j60 => ?_)
                    refine zx_aload_n (i := 0) (zd me_L_law_4 13 rfl) rfl 0 rfl ?_
                    refine zx_iload (zd me_L_law_4 14 rfl) 4 rfl ?_
                    refine zx_iconst (v := 2) (zd me_L_law_4 15 rfl) (by decide) ?_
                    refine zx_iadd (zd me_L_law_4 16 rfl) ?_
                    refine zx_sld hs (zd me_L_law_4 17 rfl) (fun j61 => ?_)
                    refine zx_aload_n (i := 3) (zd me_L_law_4 18 rfl) rfl 3 rfl ?_
                    refine zx_callW (as := [.ref a1, .int (xs j60), .int (xs j61), .ref a3]) (zd me_L_law_4 19 rfl) (mc_L_sheet (zl C) hst h1 h3 (xs j60) (xs j61) M) lk_L_53 ⟨(Nat.le_of_ble_eq_true rfl), (Nat.le_of_ble_eq_true rfl)⟩ (Nat.le_of_ble_eq_true rfl) rfl ⟨by show k + 1 ≤ 601024; omega, by show n + 6 ≤ 7293034; omega⟩ rfl (fun r63 M62 => ?_)
                    refine zx_istore (ls' := [(5, .int r63), (0, .ref (zBIG + 60)), (1, .ref a1), (2, .ref a2), (3, .ref a3), (4, .int i4)]) (zd me_L_law_4 20 rfl) (Nat.le_of_ble_eq_true rfl) rfl ?_
                    refine zx_aload_n (i := 2) (zd me_L_law_4 21 rfl) rfl 3 rfl ?_
                    refine zx_aload_n (i := 0) (zd me_L_law_4 22 rfl) rfl 1 rfl ?_
                    refine zx_iload (zd me_L_law_4 23 rfl) 5 rfl ?_
                    refine zx_iconst (v := 1) (zd me_L_law_4 24 rfl) (by decide) ?_
                    refine zx_iadd (zd me_L_law_4 25 rfl) ?_
                    refine zx_sld hs (zd me_L_law_4 26 rfl) (fun j64 => ?_)
                    refine zx_aload_n (i := 0) (zd me_L_law_4 27 rfl) rfl 1 rfl ?_
                    refine zx_iload (zd me_L_law_4 28 rfl) 5 rfl ?_
                    refine zx_iconst (v := 2) (zd me_L_law_4 29 rfl) (by decide) ?_
                    refine zx_iadd (zd me_L_law_4 30 rfl) ?_
                    refine zx_sld hs (zd me_L_law_4 31 rfl) (fun j65 => ?_)
                    refine zx_callVI2 (zd me_L_law_4 32 rfl) (mc_X12_sheet (zl C) h2 (xs j64) (xs j65) M62) lk_L_58 ⟨(Nat.le_of_ble_eq_true rfl), (Nat.le_of_ble_eq_true rfl)⟩ (Nat.le_of_ble_eq_true rfl) (zi12_c h2) rfl (fun r67 M66 => ?_)
                    refine zx_istore (ls' := [(6, .int r67), (5, .int r63), (0, .ref (zBIG + 60)), (1, .ref a1), (2, .ref a2), (3, .ref a3), (4, .int i4)]) (zd me_L_law_4 33 rfl) (Nat.le_of_ble_eq_true rfl) rfl ?_
                    refine zx_aload_n (i := 2) (zd me_L_law_4 34 rfl) rfl 4 rfl ?_
                    refine zx_callVI0 (zd me_L_law_4 35 rfl) (mc_X12_thrown (zl C) h2 M66) lk_L_59 ⟨(Nat.le_of_ble_eq_true rfl), (Nat.le_of_ble_eq_true rfl)⟩ (Nat.le_of_ble_eq_true rfl) (zi12_c h2) rfl (fun r69 M68 => ?_)
                    refine zx_iload (zd me_L_law_4 36 rfl) 1 rfl ?_
                    refine zx_icmp_eq (tgt := 474) (zd me_L_law_4 37 rfl) (by decide) (fun c70 => ?_) (fun c70 => ?_)
                    · refine zx_iload (zd me_L_law_5 0 rfl) 1 rfl ?_
                      refine zx_if_ne (tgt := 491) (zd me_L_law_5 1 rfl) (by decide) (fun c71 => ?_) (fun c71 => ?_)
                      · refine zx_goto (tgt := 1432) (zd me_L_law_5 11 rfl) (by decide) ?_
                        refine zx_iinc (v := 6) (ls' := [(4, .int (i4 + 6)), (6, .int r67), (5, .int r63), (0, .ref (zBIG + 60)), (1, .ref a1), (2, .ref a2), (3, .ref a3)]) (zd me_L_law_21 0 rfl) (Nat.le_of_ble_eq_true rfl) 6 rfl (by decide) rfl ?_
                        refine zx_goto (tgt := 23) (zd me_L_law_21 1 rfl) (by decide) ?_
                        refine zx_loc [3, 4, 5, 6, 0] rfl ?_
                        exact ih (k + 1) (n + 6) (by omega) (by omega) (i4 + 6) M68
                      · refine zx_aload_n (i := 3) (zd me_L_law_5 2 rfl) rfl 5 rfl ?_
                        refine zx_iconst (v := 0) (zd me_L_law_5 3 rfl) (by decide) ?_
                        refine zx_lald (zd me_L_law_5 4 rfl) h3 (fun j72 hj72 => ?_)
                        refine zx_iload (zd me_L_law_5 5 rfl) 0 rfl ?_
                        refine zx_i2l (zd me_L_law_5 6 rfl) ?_
                        refine zx_lcmp (zd me_L_law_5 7 rfl) ?_
                        refine zx_if_eq (tgt := 491) (zd me_L_law_5 8 rfl) (by decide) (fun c73 => ?_) (fun c73 => ?_)
                        · refine zx_goto (tgt := 1432) (zd me_L_law_5 11 rfl) (by decide) ?_
                          refine zx_iinc (v := 6) (ls' := [(4, .int (i4 + 6)), (6, .int r67), (5, .int r63), (0, .ref (zBIG + 60)), (1, .ref a1), (2, .ref a2), (3, .ref a3)]) (zd me_L_law_21 0 rfl) (Nat.le_of_ble_eq_true rfl) 6 rfl (by decide) rfl ?_
                          refine zx_goto (tgt := 23) (zd me_L_law_21 1 rfl) (by decide) ?_
                          refine zx_loc [3, 4, 5, 6, 0] rfl ?_
                          exact ih (k + 1) (n + 6) (by omega) (by omega) (i4 + 6) M68
                        · refine zx_iconst (v := 0) (zd me_L_law_5 9 rfl) (by decide) ?_
                          exact zx_none
                    · refine zx_iconst (v := 0) (zd me_L_law_4 38 rfl) (by decide) ?_
                      exact zx_none
                  · refine zx_ite (fun c74 => ?_) (fun c74 => ?_)
                    · refine zx_tin (off := 454) (tgt := 494) (zd me_L_law_0 24 rfl) (by rw [c74]; decide) (by rw [c74]; decide) (by rw [c74]; rfl) (by decide) ?_
                      refine zx_widen (k' := k + 1) (n' := n + 6) (by omega) (by omega) ⟨by show k + 1 ≤ 601024; omega, by show n + 6 ≤ 7293034; omega⟩ ?_
                      refine zx_aload_n (i := 1) (zd me_L_law_5 12 rfl) rfl 1 rfl ?_
                      refine zx_aload_n (i := 0) (zd me_L_law_5 13 rfl) rfl 0 rfl ?_
                      refine zx_iload (zd me_L_law_5 14 rfl) 4 rfl ?_
                      refine zx_iconst (v := 1) (zd me_L_law_5 15 rfl) (by decide) ?_
                      refine zx_iadd (zd me_L_law_5 16 rfl) ?_
                      refine zx_sld hs (zd me_L_law_5 17 rfl) (fun j75 => ?_)
                      refine zx_callVI1 (zd me_L_law_5 18 rfl) (mc_X11_now (zl C) h1 (xs j75) M) lk_L_62 ⟨(Nat.le_of_ble_eq_true rfl), (Nat.le_of_ble_eq_true rfl)⟩ (Nat.le_of_ble_eq_true rfl) (zi11_c h1) rfl (fun r77 M76 => ?_)
                      refine zx_aload_n (i := 2) (zd me_L_law_5 19 rfl) rfl 2 rfl ?_
                      refine zx_aload_n (i := 0) (zd me_L_law_5 20 rfl) rfl 0 rfl ?_
                      refine zx_iload (zd me_L_law_5 21 rfl) 4 rfl ?_
                      refine zx_iconst (v := 1) (zd me_L_law_5 22 rfl) (by decide) ?_
                      refine zx_iadd (zd me_L_law_5 23 rfl) ?_
                      refine zx_sld hs (zd me_L_law_5 24 rfl) (fun j78 => ?_)
                      refine zx_callVI1 (zd me_L_law_5 25 rfl) (mc_X12_now (zl C) h2 (xs j78) M76) lk_L_65 ⟨(Nat.le_of_ble_eq_true rfl), (Nat.le_of_ble_eq_true rfl)⟩ (Nat.le_of_ble_eq_true rfl) (zi12_c h2) rfl (fun r80 M79 => ?_)
                      refine zx_icmp_eq (tgt := 1432) (zd me_L_law_5 26 rfl) (by decide) (fun c81 => ?_) (fun c81 => ?_)
                      · refine zx_iinc (v := 6) (ls' := [(4, .int (i4 + 6)), (0, .ref (zBIG + 60)), (1, .ref a1), (2, .ref a2), (3, .ref a3)]) (zd me_L_law_21 0 rfl) (Nat.le_of_ble_eq_true rfl) 4 rfl (by decide) rfl ?_
                        refine zx_goto (tgt := 23) (zd me_L_law_21 1 rfl) (by decide) ?_
                        refine zx_loc [1, 2, 3, 4, 0] rfl ?_
                        exact ih (k + 1) (n + 6) (by omega) (by omega) (i4 + 6) M79
                      · refine zx_iconst (v := 0) (zd me_L_law_5 27 rfl) (by decide) ?_
                        exact zx_none
                    · refine zx_ite (fun c82 => ?_) (fun c82 => ?_)
                      · refine zx_tin (off := 479) (tgt := 519) (zd me_L_law_0 24 rfl) (by rw [c82]; decide) (by rw [c82]; decide) (by rw [c82]; rfl) (by decide) ?_
                        refine zx_widen (k' := k + 1) (n' := n + 6) (by omega) (by omega) ⟨by show k + 1 ≤ 601024; omega, by show n + 6 ≤ 7293034; omega⟩ ?_
                        refine zx_aload_n (i := 1) (zd me_L_law_5 29 rfl) rfl 1 rfl ?_
                        refine zx_aload_n (i := 0) (zd me_L_law_5 30 rfl) rfl 0 rfl ?_
                        refine zx_iload (zd me_L_law_5 31 rfl) 4 rfl ?_
                        refine zx_iconst (v := 1) (zd me_L_law_5 32 rfl) (by decide) ?_
                        refine zx_iadd (zd me_L_law_5 33 rfl) ?_
                        refine zx_sld hs (zd me_L_law_5 34 rfl) (fun j83 => ?_)
                        refine zx_callVI1 (zd me_L_law_5 35 rfl) (mc_X11_start (zl C) h1 (xs j83) M) lk_L_66 ⟨(Nat.le_of_ble_eq_true rfl), (Nat.le_of_ble_eq_true rfl)⟩ (Nat.le_of_ble_eq_true rfl) (zi11_c h1) rfl (fun r85 M84 => ?_)
                        refine zx_aload_n (i := 2) (zd me_L_law_5 36 rfl) rfl 2 rfl ?_
                        refine zx_aload_n (i := 0) (zd me_L_law_5 37 rfl) rfl 0 rfl ?_
                        refine zx_iload (zd me_L_law_5 38 rfl) 4 rfl ?_
                        refine zx_iconst (v := 1) (zd me_L_law_5 39 rfl) (by decide) ?_
                        refine zx_iadd (zd me_L_law_6 0 rfl) ?_
                        refine zx_sld hs (zd me_L_law_6 1 rfl) (fun j86 => ?_)
                        refine zx_callVI1 (zd me_L_law_6 2 rfl) (mc_X12_start (zl C) h2 (xs j86) M84) lk_L_69 ⟨(Nat.le_of_ble_eq_true rfl), (Nat.le_of_ble_eq_true rfl)⟩ (Nat.le_of_ble_eq_true rfl) (zi12_c h2) rfl (fun r88 M87 => ?_)
                        refine zx_icmp_eq (tgt := 1432) (zd me_L_law_6 3 rfl) (by decide) (fun c89 => ?_) (fun c89 => ?_)
                        · refine zx_iinc (v := 6) (ls' := [(4, .int (i4 + 6)), (0, .ref (zBIG + 60)), (1, .ref a1), (2, .ref a2), (3, .ref a3)]) (zd me_L_law_21 0 rfl) (Nat.le_of_ble_eq_true rfl) 4 rfl (by decide) rfl ?_
                          refine zx_goto (tgt := 23) (zd me_L_law_21 1 rfl) (by decide) ?_
                          refine zx_loc [1, 2, 3, 4, 0] rfl ?_
                          exact ih (k + 1) (n + 6) (by omega) (by omega) (i4 + 6) M87
                        · refine zx_iconst (v := 0) (zd me_L_law_6 4 rfl) (by decide) ?_
                          exact zx_none
                      · refine zx_ite (fun c90 => ?_) (fun c90 => ?_)
                        · refine zx_tin (off := 504) (tgt := 544) (zd me_L_law_0 24 rfl) (by rw [c90]; decide) (by rw [c90]; decide) (by rw [c90]; rfl) (by decide) ?_
                          refine zx_widen (k' := k + 1) (n' := n + 6) (by omega) (by omega) ⟨by show k + 1 ≤ 601024; omega, by show n + 6 ≤ 7293034; omega⟩ ?_
                          refine zx_aload_n (i := 1) (zd me_L_law_6 6 rfl) rfl 1 rfl ?_
                          refine zx_aload_n (i := 0) (zd me_L_law_6 7 rfl) rfl 0 rfl ?_
                          refine zx_iload (zd me_L_law_6 8 rfl) 4 rfl ?_
                          refine zx_iconst (v := 1) (zd me_L_law_6 9 rfl) (by decide) ?_
                          refine zx_iadd (zd me_L_law_6 10 rfl) ?_
                          refine zx_sld hs (zd me_L_law_6 11 rfl) (fun j91 => ?_)
                          refine zx_callVI1 (zd me_L_law_6 12 rfl) (mc_X11_take (zl C) h1 (xs j91) M) lk_L_70 ⟨(Nat.le_of_ble_eq_true rfl), (Nat.le_of_ble_eq_true rfl)⟩ (Nat.le_of_ble_eq_true rfl) (zi11_c h1) rfl (fun r93 M92 => ?_)
                          refine zx_aload_n (i := 2) (zd me_L_law_6 13 rfl) rfl 2 rfl ?_
                          refine zx_aload_n (i := 0) (zd me_L_law_6 14 rfl) rfl 0 rfl ?_
                          refine zx_iload (zd me_L_law_6 15 rfl) 4 rfl ?_
                          refine zx_iconst (v := 1) (zd me_L_law_6 16 rfl) (by decide) ?_
                          refine zx_iadd (zd me_L_law_6 17 rfl) ?_
                          refine zx_sld hs (zd me_L_law_6 18 rfl) (fun j94 => ?_)
                          refine zx_callVI1 (zd me_L_law_6 19 rfl) (mc_X12_take_ (zl C) h2 (xs j94) M92) lk_L_73 ⟨(Nat.le_of_ble_eq_true rfl), (Nat.le_of_ble_eq_true rfl)⟩ (Nat.le_of_ble_eq_true rfl) (zi12_c h2) rfl (fun r96 M95 => ?_)
                          refine zx_icmp_eq (tgt := 1432) (zd me_L_law_6 20 rfl) (by decide) (fun c97 => ?_) (fun c97 => ?_)
                          · refine zx_iinc (v := 6) (ls' := [(4, .int (i4 + 6)), (0, .ref (zBIG + 60)), (1, .ref a1), (2, .ref a2), (3, .ref a3)]) (zd me_L_law_21 0 rfl) (Nat.le_of_ble_eq_true rfl) 4 rfl (by decide) rfl ?_
                            refine zx_goto (tgt := 23) (zd me_L_law_21 1 rfl) (by decide) ?_
                            refine zx_loc [1, 2, 3, 4, 0] rfl ?_
                            exact ih (k + 1) (n + 6) (by omega) (by omega) (i4 + 6) M95
                          · refine zx_iconst (v := 0) (zd me_L_law_6 21 rfl) (by decide) ?_
                            exact zx_none
                        · refine zx_ite (fun c98 => ?_) (fun c98 => ?_)
                          · refine zx_tin (off := 529) (tgt := 569) (zd me_L_law_0 24 rfl) (by rw [c98]; decide) (by rw [c98]; decide) (by rw [c98]; rfl) (by decide) ?_
                            refine zx_widen (k' := k + 1) (n' := n + 6) (by omega) (by omega) ⟨by show k + 1 ≤ 601024; omega, by show n + 6 ≤ 7293034; omega⟩ ?_
                            refine zx_aload_n (i := 1) (zd me_L_law_6 23 rfl) rfl 1 rfl ?_
                            refine zx_aload_n (i := 0) (zd me_L_law_6 24 rfl) rfl 0 rfl ?_
                            refine zx_iload (zd me_L_law_6 25 rfl) 4 rfl ?_
                            refine zx_iconst (v := 1) (zd me_L_law_6 26 rfl) (by decide) ?_
                            refine zx_iadd (zd me_L_law_6 27 rfl) ?_
                            refine zx_sld hs (zd me_L_law_6 28 rfl) (fun j99 => ?_)
                            refine zx_callVI1 (zd me_L_law_6 29 rfl) (mc_X11_again (zl C) h1 (xs j99) M) lk_L_74 ⟨(Nat.le_of_ble_eq_true rfl), (Nat.le_of_ble_eq_true rfl)⟩ (Nat.le_of_ble_eq_true rfl) (zi11_c h1) rfl (fun r101 M100 => ?_)
                            refine zx_aload_n (i := 2) (zd me_L_law_6 30 rfl) rfl 2 rfl ?_
                            refine zx_aload_n (i := 0) (zd me_L_law_6 31 rfl) rfl 0 rfl ?_
                            refine zx_iload (zd me_L_law_6 32 rfl) 4 rfl ?_
                            refine zx_iconst (v := 1) (zd me_L_law_6 33 rfl) (by decide) ?_
                            refine zx_iadd (zd me_L_law_6 34 rfl) ?_
                            refine zx_sld hs (zd me_L_law_6 35 rfl) (fun j102 => ?_)
                            refine zx_callVI1 (zd me_L_law_6 36 rfl) (mc_X12_again (zl C) h2 (xs j102) M100) lk_L_77 ⟨(Nat.le_of_ble_eq_true rfl), (Nat.le_of_ble_eq_true rfl)⟩ (Nat.le_of_ble_eq_true rfl) (zi12_c h2) rfl (fun r104 M103 => ?_)
                            refine zx_icmp_eq (tgt := 1432) (zd me_L_law_6 37 rfl) (by decide) (fun c105 => ?_) (fun c105 => ?_)
                            · refine zx_iinc (v := 6) (ls' := [(4, .int (i4 + 6)), (0, .ref (zBIG + 60)), (1, .ref a1), (2, .ref a2), (3, .ref a3)]) (zd me_L_law_21 0 rfl) (Nat.le_of_ble_eq_true rfl) 4 rfl (by decide) rfl ?_
                              refine zx_goto (tgt := 23) (zd me_L_law_21 1 rfl) (by decide) ?_
                              refine zx_loc [1, 2, 3, 4, 0] rfl ?_
                              exact ih (k + 1) (n + 6) (by omega) (by omega) (i4 + 6) M103
                            · refine zx_iconst (v := 0) (zd me_L_law_6 38 rfl) (by decide) ?_
                              exact zx_none
                          · refine zx_ite (fun c106 => ?_) (fun c106 => ?_)
                            · refine zx_tin (off := 554) (tgt := 594) (zd me_L_law_0 24 rfl) (by rw [c106]; decide) (by rw [c106]; decide) (by rw [c106]; rfl) (by decide) ?_
                              refine zx_widen (k' := k + 1) (n' := n + 6) (by omega) (by omega) ⟨by show k + 1 ≤ 601024; omega, by show n + 6 ≤ 7293034; omega⟩ ?_
                              refine zx_aload_n (i := 1) (zd me_L_law_7 0 rfl) rfl 1 rfl ?_
                              refine zx_aload_n (i := 0) (zd me_L_law_7 1 rfl) rfl 0 rfl ?_
                              refine zx_iload (zd me_L_law_7 2 rfl) 4 rfl ?_
                              refine zx_iconst (v := 1) (zd me_L_law_7 3 rfl) (by decide) ?_
                              refine zx_iadd (zd me_L_law_7 4 rfl) ?_
                              refine zx_sld hs (zd me_L_law_7 5 rfl) (fun j107 => ?_)
                              refine zx_callVI1 (zd me_L_law_7 6 rfl) (mc_X11_renew (zl C) h1 (xs j107) M) lk_L_78 ⟨(Nat.le_of_ble_eq_true rfl), (Nat.le_of_ble_eq_true rfl)⟩ (Nat.le_of_ble_eq_true rfl) (zi11_c h1) rfl (fun r109 M108 => ?_)
                              refine zx_aload_n (i := 2) (zd me_L_law_7 7 rfl) rfl 2 rfl ?_
                              refine zx_aload_n (i := 0) (zd me_L_law_7 8 rfl) rfl 0 rfl ?_
                              refine zx_iload (zd me_L_law_7 9 rfl) 4 rfl ?_
                              refine zx_iconst (v := 1) (zd me_L_law_7 10 rfl) (by decide) ?_
                              refine zx_iadd (zd me_L_law_7 11 rfl) ?_
                              refine zx_sld hs (zd me_L_law_7 12 rfl) (fun j110 => ?_)
                              refine zx_callVI1 (zd me_L_law_7 13 rfl) (mc_X12_renew (zl C) h2 (xs j110) M108) lk_L_81 ⟨(Nat.le_of_ble_eq_true rfl), (Nat.le_of_ble_eq_true rfl)⟩ (Nat.le_of_ble_eq_true rfl) (zi12_c h2) rfl (fun r112 M111 => ?_)
                              refine zx_icmp_eq (tgt := 1432) (zd me_L_law_7 14 rfl) (by decide) (fun c113 => ?_) (fun c113 => ?_)
                              · refine zx_iinc (v := 6) (ls' := [(4, .int (i4 + 6)), (0, .ref (zBIG + 60)), (1, .ref a1), (2, .ref a2), (3, .ref a3)]) (zd me_L_law_21 0 rfl) (Nat.le_of_ble_eq_true rfl) 4 rfl (by decide) rfl ?_
                                refine zx_goto (tgt := 23) (zd me_L_law_21 1 rfl) (by decide) ?_
                                refine zx_loc [1, 2, 3, 4, 0] rfl ?_
                                exact ih (k + 1) (n + 6) (by omega) (by omega) (i4 + 6) M111
                              · refine zx_iconst (v := 0) (zd me_L_law_7 15 rfl) (by decide) ?_
                                exact zx_none
                            · refine zx_ite (fun c114 => ?_) (fun c114 => ?_)
                              · refine zx_tin (off := 579) (tgt := 619) (zd me_L_law_0 24 rfl) (by rw [c114]; decide) (by rw [c114]; decide) (by rw [c114]; rfl) (by decide) ?_
                                refine zx_widen (k' := k + 1) (n' := n + 6) (by omega) (by omega) ⟨by show k + 1 ≤ 601024; omega, by show n + 6 ≤ 7293034; omega⟩ ?_
                                refine zx_aload_n (i := 1) (zd me_L_law_7 17 rfl) rfl 1 rfl ?_
                                refine zx_aload_n (i := 0) (zd me_L_law_7 18 rfl) rfl 0 rfl ?_
                                refine zx_iload (zd me_L_law_7 19 rfl) 4 rfl ?_
                                refine zx_iconst (v := 1) (zd me_L_law_7 20 rfl) (by decide) ?_
                                refine zx_iadd (zd me_L_law_7 21 rfl) ?_
                                refine zx_sld hs (zd me_L_law_7 22 rfl) (fun j115 => ?_)
                                refine zx_callVI1 (zd me_L_law_7 23 rfl) (mc_X11_minutes (zl C) h1 (xs j115) M) lk_L_82 ⟨(Nat.le_of_ble_eq_true rfl), (Nat.le_of_ble_eq_true rfl)⟩ (Nat.le_of_ble_eq_true rfl) (zi11_c h1) rfl (fun r117 M116 => ?_)
                                refine zx_aload_n (i := 2) (zd me_L_law_7 24 rfl) rfl 2 rfl ?_
                                refine zx_aload_n (i := 0) (zd me_L_law_7 25 rfl) rfl 0 rfl ?_
                                refine zx_iload (zd me_L_law_7 26 rfl) 4 rfl ?_
                                refine zx_iconst (v := 1) (zd me_L_law_7 27 rfl) (by decide) ?_
                                refine zx_iadd (zd me_L_law_7 28 rfl) ?_
                                refine zx_sld hs (zd me_L_law_7 29 rfl) (fun j118 => ?_)
                                refine zx_callVI1 (zd me_L_law_7 30 rfl) (mc_X12_minutes (zl C) h2 (xs j118) M116) lk_L_85 ⟨(Nat.le_of_ble_eq_true rfl), (Nat.le_of_ble_eq_true rfl)⟩ (Nat.le_of_ble_eq_true rfl) (zi12_c h2) rfl (fun r120 M119 => ?_)
                                refine zx_icmp_eq (tgt := 1432) (zd me_L_law_7 31 rfl) (by decide) (fun c121 => ?_) (fun c121 => ?_)
                                · refine zx_iinc (v := 6) (ls' := [(4, .int (i4 + 6)), (0, .ref (zBIG + 60)), (1, .ref a1), (2, .ref a2), (3, .ref a3)]) (zd me_L_law_21 0 rfl) (Nat.le_of_ble_eq_true rfl) 4 rfl (by decide) rfl ?_
                                  refine zx_goto (tgt := 23) (zd me_L_law_21 1 rfl) (by decide) ?_
                                  refine zx_loc [1, 2, 3, 4, 0] rfl ?_
                                  exact ih (k + 1) (n + 6) (by omega) (by omega) (i4 + 6) M119
                                · refine zx_iconst (v := 0) (zd me_L_law_7 32 rfl) (by decide) ?_
                                  exact zx_none
                              · refine zx_ite (fun c122 => ?_) (fun c122 => ?_)
                                · refine zx_tin (off := 604) (tgt := 644) (zd me_L_law_0 24 rfl) (by rw [c122]; decide) (by rw [c122]; decide) (by rw [c122]; rfl) (by decide) ?_
                                  refine zx_widen (k' := k + 1) (n' := n + 6) (by omega) (by omega) ⟨by show k + 1 ≤ 601024; omega, by show n + 6 ≤ 7293034; omega⟩ ?_
                                  refine zx_aload_n (i := 1) (zd me_L_law_7 34 rfl) rfl 1 rfl ?_
                                  refine zx_callVI0 (zd me_L_law_7 35 rfl) (mc_X11_undo (zl C) h1 M) lk_L_86 ⟨(Nat.le_of_ble_eq_true rfl), (Nat.le_of_ble_eq_true rfl)⟩ (Nat.le_of_ble_eq_true rfl) (zi11_c h1) rfl (fun r124 M123 => ?_)
                                  refine zx_aload_n (i := 2) (zd me_L_law_7 36 rfl) rfl 2 rfl ?_
                                  refine zx_callVI0 (zd me_L_law_7 37 rfl) (mc_X12_undo (zl C) h2 M123) lk_L_89 ⟨(Nat.le_of_ble_eq_true rfl), (Nat.le_of_ble_eq_true rfl)⟩ (Nat.le_of_ble_eq_true rfl) (zi12_c h2) rfl (fun r126 M125 => ?_)
                                  refine zx_icmp_eq (tgt := 1432) (zd me_L_law_7 38 rfl) (by decide) (fun c127 => ?_) (fun c127 => ?_)
                                  · refine zx_iinc (v := 6) (ls' := [(4, .int (i4 + 6)), (0, .ref (zBIG + 60)), (1, .ref a1), (2, .ref a2), (3, .ref a3)]) (zd me_L_law_21 0 rfl) (Nat.le_of_ble_eq_true rfl) 4 rfl (by decide) rfl ?_
                                    refine zx_goto (tgt := 23) (zd me_L_law_21 1 rfl) (by decide) ?_
                                    refine zx_loc [1, 2, 3, 4, 0] rfl ?_
                                    exact ih (k + 1) (n + 6) (by omega) (by omega) (i4 + 6) M125
                                  · refine zx_iconst (v := 0) (zd me_L_law_7 39 rfl) (by decide) ?_
                                    exact zx_none
                                · refine zx_ite (fun c128 => ?_) (fun c128 => ?_)
                                  · refine zx_tin (off := 617) (tgt := 657) (zd me_L_law_0 24 rfl) (by rw [c128]; decide) (by rw [c128]; decide) (by rw [c128]; rfl) (by decide) ?_
                                    refine zx_widen (k' := k + 1) (n' := n + 6) (by omega) (by omega) ⟨by show k + 1 ≤ 601024; omega, by show n + 6 ≤ 7293034; omega⟩ ?_
                                    refine zx_aload_n (i := 1) (zd me_L_law_8 1 rfl) rfl 1 rfl ?_
                                    refine zx_aload_n (i := 0) (zd me_L_law_8 2 rfl) rfl 0 rfl ?_
                                    refine zx_iload (zd me_L_law_8 3 rfl) 4 rfl ?_
                                    refine zx_iconst (v := 1) (zd me_L_law_8 4 rfl) (by decide) ?_
                                    refine zx_iadd (zd me_L_law_8 5 rfl) ?_
                                    refine zx_sld hs (zd me_L_law_8 6 rfl) (fun j129 => ?_)
                                    refine zx_callVI1 (zd me_L_law_8 7 rfl) (mc_X11_when (zl C) h1 (xs j129) M) lk_L_90 ⟨(Nat.le_of_ble_eq_true rfl), (Nat.le_of_ble_eq_true rfl)⟩ (Nat.le_of_ble_eq_true rfl) (zi11_c h1) rfl (fun r131 M130 => ?_)
                                    refine zx_aload_n (i := 2) (zd me_L_law_8 8 rfl) rfl 2 rfl ?_
                                    refine zx_aload_n (i := 0) (zd me_L_law_8 9 rfl) rfl 0 rfl ?_
                                    refine zx_iload (zd me_L_law_8 10 rfl) 4 rfl ?_
                                    refine zx_iconst (v := 1) (zd me_L_law_8 11 rfl) (by decide) ?_
                                    refine zx_iadd (zd me_L_law_8 12 rfl) ?_
                                    refine zx_sld hs (zd me_L_law_8 13 rfl) (fun j132 => ?_)
                                    refine zx_callVI1 (zd me_L_law_8 14 rfl) (mc_X12_when (zl C) h2 (xs j132) M130) lk_L_93 ⟨(Nat.le_of_ble_eq_true rfl), (Nat.le_of_ble_eq_true rfl)⟩ (Nat.le_of_ble_eq_true rfl) (zi12_c h2) rfl (fun r134 M133 => ?_)
                                    refine zx_icmp_eq (tgt := 1432) (zd me_L_law_8 15 rfl) (by decide) (fun c135 => ?_) (fun c135 => ?_)
                                    · refine zx_iinc (v := 6) (ls' := [(4, .int (i4 + 6)), (0, .ref (zBIG + 60)), (1, .ref a1), (2, .ref a2), (3, .ref a3)]) (zd me_L_law_21 0 rfl) (Nat.le_of_ble_eq_true rfl) 4 rfl (by decide) rfl ?_
                                      refine zx_goto (tgt := 23) (zd me_L_law_21 1 rfl) (by decide) ?_
                                      refine zx_loc [1, 2, 3, 4, 0] rfl ?_
                                      exact ih (k + 1) (n + 6) (by omega) (by omega) (i4 + 6) M133
                                    · refine zx_iconst (v := 0) (zd me_L_law_8 16 rfl) (by decide) ?_
                                      exact zx_none
                                  · refine zx_ite (fun c136 => ?_) (fun c136 => ?_)
                                    · refine zx_tin (off := 642) (tgt := 682) (zd me_L_law_0 24 rfl) (by rw [c136]; decide) (by rw [c136]; decide) (by rw [c136]; rfl) (by decide) ?_
                                      refine zx_widen (k' := k + 1) (n' := n + 6) (by omega) (by omega) ⟨by show k + 1 ≤ 601024; omega, by show n + 6 ≤ 7293034; omega⟩ ?_
                                      refine zx_aload_n (i := 1) (zd me_L_law_8 18 rfl) rfl 1 rfl ?_
                                      refine zx_aload_n (i := 0) (zd me_L_law_8 19 rfl) rfl 0 rfl ?_
                                      refine zx_iload (zd me_L_law_8 20 rfl) 4 rfl ?_
                                      refine zx_iconst (v := 1) (zd me_L_law_8 21 rfl) (by decide) ?_
                                      refine zx_iadd (zd me_L_law_8 22 rfl) ?_
                                      refine zx_sld hs (zd me_L_law_8 23 rfl) (fun j137 => ?_)
                                      refine zx_callVI1 (zd me_L_law_8 24 rfl) (mc_X11_clear (zl C) h1 (xs j137) M) lk_L_94 ⟨(Nat.le_of_ble_eq_true rfl), (Nat.le_of_ble_eq_true rfl)⟩ (Nat.le_of_ble_eq_true rfl) (zi11_c h1) rfl (fun r139 M138 => ?_)
                                      refine zx_aload_n (i := 2) (zd me_L_law_8 25 rfl) rfl 2 rfl ?_
                                      refine zx_aload_n (i := 0) (zd me_L_law_8 26 rfl) rfl 0 rfl ?_
                                      refine zx_iload (zd me_L_law_8 27 rfl) 4 rfl ?_
                                      refine zx_iconst (v := 1) (zd me_L_law_8 28 rfl) (by decide) ?_
                                      refine zx_iadd (zd me_L_law_8 29 rfl) ?_
                                      refine zx_sld hs (zd me_L_law_8 30 rfl) (fun j140 => ?_)
                                      refine zx_callVI1 (zd me_L_law_8 31 rfl) (mc_X12_clear (zl C) h2 (xs j140) M138) lk_L_97 ⟨(Nat.le_of_ble_eq_true rfl), (Nat.le_of_ble_eq_true rfl)⟩ (Nat.le_of_ble_eq_true rfl) (zi12_c h2) rfl (fun r142 M141 => ?_)
                                      refine zx_icmp_eq (tgt := 1432) (zd me_L_law_8 32 rfl) (by decide) (fun c143 => ?_) (fun c143 => ?_)
                                      · refine zx_iinc (v := 6) (ls' := [(4, .int (i4 + 6)), (0, .ref (zBIG + 60)), (1, .ref a1), (2, .ref a2), (3, .ref a3)]) (zd me_L_law_21 0 rfl) (Nat.le_of_ble_eq_true rfl) 4 rfl (by decide) rfl ?_
                                        refine zx_goto (tgt := 23) (zd me_L_law_21 1 rfl) (by decide) ?_
                                        refine zx_loc [1, 2, 3, 4, 0] rfl ?_
                                        exact ih (k + 1) (n + 6) (by omega) (by omega) (i4 + 6) M141
                                      · refine zx_iconst (v := 0) (zd me_L_law_8 33 rfl) (by decide) ?_
                                        exact zx_none
                                    · refine zx_ite (fun c144 => ?_) (fun c144 => ?_)
                                      · refine zx_tin (off := 667) (tgt := 707) (zd me_L_law_0 24 rfl) (by rw [c144]; decide) (by rw [c144]; decide) (by rw [c144]; rfl) (by decide) ?_
                                        refine zx_widen (k' := k + 1) (n' := n + 6) (by omega) (by omega) ⟨by show k + 1 ≤ 601024; omega, by show n + 6 ≤ 7293034; omega⟩ ?_
                                        refine zx_aload_n (i := 1) (zd me_L_law_8 35 rfl) rfl 1 rfl ?_
                                        refine zx_callVI0 (zd me_L_law_8 36 rfl) (mc_X11_order (zl C) h1 M) lk_L_98 ⟨(Nat.le_of_ble_eq_true rfl), (Nat.le_of_ble_eq_true rfl)⟩ (Nat.le_of_ble_eq_true rfl) (zi11_c h1) rfl (fun r146 M145 => ?_)
                                        refine zx_aload_n (i := 2) (zd me_L_law_8 37 rfl) rfl 2 rfl ?_
                                        refine zx_callVI0 (zd me_L_law_8 38 rfl) (mc_X12_order (zl C) h2 M145) lk_L_101 ⟨(Nat.le_of_ble_eq_true rfl), (Nat.le_of_ble_eq_true rfl)⟩ (Nat.le_of_ble_eq_true rfl) (zi12_c h2) rfl (fun r148 M147 => ?_)
                                        refine zx_icmp_eq (tgt := 1432) (zd me_L_law_8 39 rfl) (by decide) (fun c149 => ?_) (fun c149 => ?_)
                                        · refine zx_iinc (v := 6) (ls' := [(4, .int (i4 + 6)), (0, .ref (zBIG + 60)), (1, .ref a1), (2, .ref a2), (3, .ref a3)]) (zd me_L_law_21 0 rfl) (Nat.le_of_ble_eq_true rfl) 4 rfl (by decide) rfl ?_
                                          refine zx_goto (tgt := 23) (zd me_L_law_21 1 rfl) (by decide) ?_
                                          refine zx_loc [1, 2, 3, 4, 0] rfl ?_
                                          exact ih (k + 1) (n + 6) (by omega) (by omega) (i4 + 6) M147
                                        · refine zx_iconst (v := 0) (zd me_L_law_9 0 rfl) (by decide) ?_
                                          exact zx_none
                                      · refine zx_ite (fun c150 => ?_) (fun c150 => ?_)
                                        · refine zx_tin (off := 680) (tgt := 720) (zd me_L_law_0 24 rfl) (by rw [c150]; decide) (by rw [c150]; decide) (by rw [c150]; rfl) (by decide) ?_
                                          refine zx_widen (k' := k + 1) (n' := n + 6) (by omega) (by omega) ⟨by show k + 1 ≤ 601024; omega, by show n + 6 ≤ 7293034; omega⟩ ?_
                                          refine zx_aload_n (i := 1) (zd me_L_law_9 2 rfl) rfl 1 rfl ?_
                                          refine zx_aload_n (i := 0) (zd me_L_law_9 3 rfl) rfl 0 rfl ?_
                                          refine zx_iload (zd me_L_law_9 4 rfl) 4 rfl ?_
                                          refine zx_iconst (v := 1) (zd me_L_law_9 5 rfl) (by decide) ?_
                                          refine zx_iadd (zd me_L_law_9 6 rfl) ?_
                                          refine zx_sld hs (zd me_L_law_9 7 rfl) (fun j151 => ?_)
                                          refine zx_callVI1 (zd me_L_law_9 8 rfl) (mc_X11_orderAt (zl C) h1 (xs j151) M) lk_L_102 ⟨(Nat.le_of_ble_eq_true rfl), (Nat.le_of_ble_eq_true rfl)⟩ (Nat.le_of_ble_eq_true rfl) (zi11_c h1) rfl (fun r153 M152 => ?_)
                                          refine zx_aload_n (i := 2) (zd me_L_law_9 9 rfl) rfl 2 rfl ?_
                                          refine zx_aload_n (i := 0) (zd me_L_law_9 10 rfl) rfl 0 rfl ?_
                                          refine zx_iload (zd me_L_law_9 11 rfl) 4 rfl ?_
                                          refine zx_iconst (v := 1) (zd me_L_law_9 12 rfl) (by decide) ?_
                                          refine zx_iadd (zd me_L_law_9 13 rfl) ?_
                                          refine zx_sld hs (zd me_L_law_9 14 rfl) (fun j154 => ?_)
                                          refine zx_callVI1 (zd me_L_law_9 15 rfl) (mc_X12_orderAt (zl C) h2 (xs j154) M152) lk_L_105 ⟨(Nat.le_of_ble_eq_true rfl), (Nat.le_of_ble_eq_true rfl)⟩ (Nat.le_of_ble_eq_true rfl) (zi12_c h2) rfl (fun r156 M155 => ?_)
                                          refine zx_icmp_eq (tgt := 1432) (zd me_L_law_9 16 rfl) (by decide) (fun c157 => ?_) (fun c157 => ?_)
                                          · refine zx_iinc (v := 6) (ls' := [(4, .int (i4 + 6)), (0, .ref (zBIG + 60)), (1, .ref a1), (2, .ref a2), (3, .ref a3)]) (zd me_L_law_21 0 rfl) (Nat.le_of_ble_eq_true rfl) 4 rfl (by decide) rfl ?_
                                            refine zx_goto (tgt := 23) (zd me_L_law_21 1 rfl) (by decide) ?_
                                            refine zx_loc [1, 2, 3, 4, 0] rfl ?_
                                            exact ih (k + 1) (n + 6) (by omega) (by omega) (i4 + 6) M155
                                          · refine zx_iconst (v := 0) (zd me_L_law_9 17 rfl) (by decide) ?_
                                            exact zx_none
                                        · refine zx_ite (fun c158 => ?_) (fun c158 => ?_)
                                          · refine zx_tin (off := 705) (tgt := 745) (zd me_L_law_0 24 rfl) (by rw [c158]; decide) (by rw [c158]; decide) (by rw [c158]; rfl) (by decide) ?_
                                            refine zx_widen (k' := k + 1) (n' := n + 6) (by omega) (by omega) ⟨by show k + 1 ≤ 601024; omega, by show n + 6 ≤ 7293034; omega⟩ ?_
                                            refine zx_aload_n (i := 1) (zd me_L_law_9 19 rfl) rfl 1 rfl ?_
                                            refine zx_aload_n (i := 0) (zd me_L_law_9 20 rfl) rfl 0 rfl ?_
                                            refine zx_iload (zd me_L_law_9 21 rfl) 4 rfl ?_
                                            refine zx_iconst (v := 1) (zd me_L_law_9 22 rfl) (by decide) ?_
                                            refine zx_iadd (zd me_L_law_9 23 rfl) ?_
                                            refine zx_sld hs (zd me_L_law_9 24 rfl) (fun j159 => ?_)
                                            refine zx_callVI1 (zd me_L_law_9 25 rfl) (mc_X11_orderWhen (zl C) h1 (xs j159) M) lk_L_106 ⟨(Nat.le_of_ble_eq_true rfl), (Nat.le_of_ble_eq_true rfl)⟩ (Nat.le_of_ble_eq_true rfl) (zi11_c h1) rfl (fun r161 M160 => ?_)
                                            refine zx_aload_n (i := 2) (zd me_L_law_9 26 rfl) rfl 2 rfl ?_
                                            refine zx_aload_n (i := 0) (zd me_L_law_9 27 rfl) rfl 0 rfl ?_
                                            refine zx_iload (zd me_L_law_9 28 rfl) 4 rfl ?_
                                            refine zx_iconst (v := 1) (zd me_L_law_9 29 rfl) (by decide) ?_
                                            refine zx_iadd (zd me_L_law_9 30 rfl) ?_
                                            refine zx_sld hs (zd me_L_law_9 31 rfl) (fun j162 => ?_)
                                            refine zx_callVI1 (zd me_L_law_9 32 rfl) (mc_X12_orderWhen (zl C) h2 (xs j162) M160) lk_L_109 ⟨(Nat.le_of_ble_eq_true rfl), (Nat.le_of_ble_eq_true rfl)⟩ (Nat.le_of_ble_eq_true rfl) (zi12_c h2) rfl (fun r164 M163 => ?_)
                                            refine zx_icmp_eq (tgt := 1432) (zd me_L_law_9 33 rfl) (by decide) (fun c165 => ?_) (fun c165 => ?_)
                                            · refine zx_iinc (v := 6) (ls' := [(4, .int (i4 + 6)), (0, .ref (zBIG + 60)), (1, .ref a1), (2, .ref a2), (3, .ref a3)]) (zd me_L_law_21 0 rfl) (Nat.le_of_ble_eq_true rfl) 4 rfl (by decide) rfl ?_
                                              refine zx_goto (tgt := 23) (zd me_L_law_21 1 rfl) (by decide) ?_
                                              refine zx_loc [1, 2, 3, 4, 0] rfl ?_
                                              exact ih (k + 1) (n + 6) (by omega) (by omega) (i4 + 6) M163
                                            · refine zx_iconst (v := 0) (zd me_L_law_9 34 rfl) (by decide) ?_
                                              exact zx_none
                                          · refine zx_ite (fun c166 => ?_) (fun c166 => ?_)
                                            · refine zx_tin (off := 730) (tgt := 770) (zd me_L_law_0 24 rfl) (by rw [c166]; decide) (by rw [c166]; decide) (by rw [c166]; rfl) (by decide) ?_
                                              refine zx_widen (k' := k + 1) (n' := n + 6) (by omega) (by omega) ⟨by show k + 1 ≤ 601024; omega, by show n + 6 ≤ 7293034; omega⟩ ?_
                                              refine zx_aload_n (i := 1) (zd me_L_law_9 36 rfl) rfl 1 rfl ?_
                                              refine zx_callVI0 (zd me_L_law_9 37 rfl) (mc_X11_jam (zl C) h1 M) lk_L_110 ⟨(Nat.le_of_ble_eq_true rfl), (Nat.le_of_ble_eq_true rfl)⟩ (Nat.le_of_ble_eq_true rfl) (zi11_c h1) rfl (fun r168 M167 => ?_)
                                              refine zx_aload_n (i := 2) (zd me_L_law_9 38 rfl) rfl 2 rfl ?_
                                              refine zx_callVI0 (zd me_L_law_9 39 rfl) (mc_X12_jam (zl C) h2 M167) lk_L_113 ⟨(Nat.le_of_ble_eq_true rfl), (Nat.le_of_ble_eq_true rfl)⟩ (Nat.le_of_ble_eq_true rfl) (zi12_c h2) rfl (fun r170 M169 => ?_)
                                              refine zx_icmp_eq (tgt := 1432) (zd me_L_law_10 0 rfl) (by decide) (fun c171 => ?_) (fun c171 => ?_)
                                              · refine zx_iinc (v := 6) (ls' := [(4, .int (i4 + 6)), (0, .ref (zBIG + 60)), (1, .ref a1), (2, .ref a2), (3, .ref a3)]) (zd me_L_law_21 0 rfl) (Nat.le_of_ble_eq_true rfl) 4 rfl (by decide) rfl ?_
                                                refine zx_goto (tgt := 23) (zd me_L_law_21 1 rfl) (by decide) ?_
                                                refine zx_loc [1, 2, 3, 4, 0] rfl ?_
                                                exact ih (k + 1) (n + 6) (by omega) (by omega) (i4 + 6) M169
                                              · refine zx_iconst (v := 0) (zd me_L_law_10 1 rfl) (by decide) ?_
                                                exact zx_none
                                            · refine zx_ite (fun c172 => ?_) (fun c172 => ?_)
                                              · refine zx_tin (off := 743) (tgt := 783) (zd me_L_law_0 24 rfl) (by rw [c172]; decide) (by rw [c172]; decide) (by rw [c172]; rfl) (by decide) ?_
                                                refine zx_widen (k' := k + 1) (n' := n + 6) (by omega) (by omega) ⟨by show k + 1 ≤ 601024; omega, by show n + 6 ≤ 7293034; omega⟩ ?_
                                                refine zx_aload_n (i := 1) (zd me_L_law_10 3 rfl) rfl 1 rfl ?_
                                                refine zx_callVI0 (zd me_L_law_10 4 rfl) (mc_X11_who (zl C) h1 M) lk_L_114 ⟨(Nat.le_of_ble_eq_true rfl), (Nat.le_of_ble_eq_true rfl)⟩ (Nat.le_of_ble_eq_true rfl) (zi11_c h1) rfl (fun r174 M173 => ?_)
                                                refine zx_aload_n (i := 2) (zd me_L_law_10 5 rfl) rfl 2 rfl ?_
                                                refine zx_callVI0 (zd me_L_law_10 6 rfl) (mc_X12_who (zl C) h2 M173) lk_L_117 ⟨(Nat.le_of_ble_eq_true rfl), (Nat.le_of_ble_eq_true rfl)⟩ (Nat.le_of_ble_eq_true rfl) (zi12_c h2) rfl (fun r176 M175 => ?_)
                                                refine zx_icmp_eq (tgt := 1432) (zd me_L_law_10 7 rfl) (by decide) (fun c177 => ?_) (fun c177 => ?_)
                                                · refine zx_iinc (v := 6) (ls' := [(4, .int (i4 + 6)), (0, .ref (zBIG + 60)), (1, .ref a1), (2, .ref a2), (3, .ref a3)]) (zd me_L_law_21 0 rfl) (Nat.le_of_ble_eq_true rfl) 4 rfl (by decide) rfl ?_
                                                  refine zx_goto (tgt := 23) (zd me_L_law_21 1 rfl) (by decide) ?_
                                                  refine zx_loc [1, 2, 3, 4, 0] rfl ?_
                                                  exact ih (k + 1) (n + 6) (by omega) (by omega) (i4 + 6) M175
                                                · refine zx_iconst (v := 0) (zd me_L_law_10 8 rfl) (by decide) ?_
                                                  exact zx_none
                                              · refine zx_ite (fun c178 => ?_) (fun c178 => ?_)
                                                · refine zx_tin (off := 756) (tgt := 796) (zd me_L_law_0 24 rfl) (by rw [c178]; decide) (by rw [c178]; decide) (by rw [c178]; rfl) (by decide) ?_
                                                  refine zx_widen (k' := k + 1) (n' := n + 6) (by omega) (by omega) ⟨by show k + 1 ≤ 601024; omega, by show n + 6 ≤ 7293034; omega⟩ ?_
                                                  refine zx_aload_n (i := 1) (zd me_L_law_10 10 rfl) rfl 1 rfl ?_
                                                  refine zx_callVI0 (zd me_L_law_10 11 rfl) (mc_X11_ask (zl C) h1 M) lk_L_118 ⟨(Nat.le_of_ble_eq_true rfl), (Nat.le_of_ble_eq_true rfl)⟩ (Nat.le_of_ble_eq_true rfl) (zi11_c h1) rfl (fun r180 M179 => ?_)
                                                  refine zx_aload_n (i := 2) (zd me_L_law_10 12 rfl) rfl 2 rfl ?_
                                                  refine zx_callVI0 (zd me_L_law_10 13 rfl) (mc_X12_ask (zl C) h2 M179) lk_L_121 ⟨(Nat.le_of_ble_eq_true rfl), (Nat.le_of_ble_eq_true rfl)⟩ (Nat.le_of_ble_eq_true rfl) (zi12_c h2) rfl (fun r182 M181 => ?_)
                                                  refine zx_icmp_eq (tgt := 1432) (zd me_L_law_10 14 rfl) (by decide) (fun c183 => ?_) (fun c183 => ?_)
                                                  · refine zx_iinc (v := 6) (ls' := [(4, .int (i4 + 6)), (0, .ref (zBIG + 60)), (1, .ref a1), (2, .ref a2), (3, .ref a3)]) (zd me_L_law_21 0 rfl) (Nat.le_of_ble_eq_true rfl) 4 rfl (by decide) rfl ?_
                                                    refine zx_goto (tgt := 23) (zd me_L_law_21 1 rfl) (by decide) ?_
                                                    refine zx_loc [1, 2, 3, 4, 0] rfl ?_
                                                    exact ih (k + 1) (n + 6) (by omega) (by omega) (i4 + 6) M181
                                                  · refine zx_iconst (v := 0) (zd me_L_law_10 15 rfl) (by decide) ?_
                                                    exact zx_none
                                                · refine zx_ite (fun c184 => ?_) (fun c184 => ?_)
                                                  · refine zx_tin (off := 769) (tgt := 809) (zd me_L_law_0 24 rfl) (by rw [c184]; decide) (by rw [c184]; decide) (by rw [c184]; rfl) (by decide) ?_
                                                    refine zx_widen (k' := k + 1) (n' := n + 6) (by omega) (by omega) ⟨by show k + 1 ≤ 601024; omega, by show n + 6 ≤ 7293034; omega⟩ ?_
                                                    refine zx_aload_n (i := 1) (zd me_L_law_10 17 rfl) rfl 1 rfl ?_
                                                    refine zx_aload_n (i := 0) (zd me_L_law_10 18 rfl) rfl 0 rfl ?_
                                                    refine zx_iload (zd me_L_law_10 19 rfl) 4 rfl ?_
                                                    refine zx_iconst (v := 1) (zd me_L_law_10 20 rfl) (by decide) ?_
                                                    refine zx_iadd (zd me_L_law_10 21 rfl) ?_
                                                    refine zx_sld hs (zd me_L_law_10 22 rfl) (fun j185 => ?_)
                                                    refine zx_callVI1 (zd me_L_law_10 23 rfl) (mc_X11_near (zl C) h1 (xs j185) M) lk_L_122 ⟨(Nat.le_of_ble_eq_true rfl), (Nat.le_of_ble_eq_true rfl)⟩ (Nat.le_of_ble_eq_true rfl) (zi11_c h1) rfl (fun r187 M186 => ?_)
                                                    refine zx_aload_n (i := 2) (zd me_L_law_10 24 rfl) rfl 2 rfl ?_
                                                    refine zx_aload_n (i := 0) (zd me_L_law_10 25 rfl) rfl 0 rfl ?_
                                                    refine zx_iload (zd me_L_law_10 26 rfl) 4 rfl ?_
                                                    refine zx_iconst (v := 1) (zd me_L_law_10 27 rfl) (by decide) ?_
                                                    refine zx_iadd (zd me_L_law_10 28 rfl) ?_
                                                    refine zx_sld hs (zd me_L_law_10 29 rfl) (fun j188 => ?_)
                                                    refine zx_callVI1 (zd me_L_law_10 30 rfl) (mc_X12_near (zl C) h2 (xs j188) M186) lk_L_125 ⟨(Nat.le_of_ble_eq_true rfl), (Nat.le_of_ble_eq_true rfl)⟩ (Nat.le_of_ble_eq_true rfl) (zi12_c h2) rfl (fun r190 M189 => ?_)
                                                    refine zx_icmp_eq (tgt := 1432) (zd me_L_law_10 31 rfl) (by decide) (fun c191 => ?_) (fun c191 => ?_)
                                                    · refine zx_iinc (v := 6) (ls' := [(4, .int (i4 + 6)), (0, .ref (zBIG + 60)), (1, .ref a1), (2, .ref a2), (3, .ref a3)]) (zd me_L_law_21 0 rfl) (Nat.le_of_ble_eq_true rfl) 4 rfl (by decide) rfl ?_
                                                      refine zx_goto (tgt := 23) (zd me_L_law_21 1 rfl) (by decide) ?_
                                                      refine zx_loc [1, 2, 3, 4, 0] rfl ?_
                                                      exact ih (k + 1) (n + 6) (by omega) (by omega) (i4 + 6) M189
                                                    · refine zx_iconst (v := 0) (zd me_L_law_10 32 rfl) (by decide) ?_
                                                      exact zx_none
                                                  · refine zx_ite (fun c192 => ?_) (fun c192 => ?_)
                                                    · refine zx_tin (off := 794) (tgt := 834) (zd me_L_law_0 24 rfl) (by rw [c192]; decide) (by rw [c192]; decide) (by rw [c192]; rfl) (by decide) ?_
                                                      refine zx_widen (k' := k + 1) (n' := n + 6) (by omega) (by omega) ⟨by show k + 1 ≤ 601024; omega, by show n + 6 ≤ 7293034; omega⟩ ?_
                                                      refine zx_aload_n (i := 1) (zd me_L_law_10 34 rfl) rfl 1 rfl ?_
                                                      refine zx_aload_n (i := 0) (zd me_L_law_10 35 rfl) rfl 0 rfl ?_
                                                      refine zx_iload (zd me_L_law_10 36 rfl) 4 rfl ?_
                                                      refine zx_iconst (v := 1) (zd me_L_law_10 37 rfl) (by decide) ?_
                                                      refine zx_iadd (zd me_L_law_10 38 rfl) ?_
                                                      refine zx_sld hs (zd me_L_law_10 39 rfl) (fun j193 => ?_)
                                                      refine zx_callVI1 (zd me_L_law_11 0 rfl) (mc_X11_through (zl C) h1 (xs j193) M) lk_L_126 ⟨(Nat.le_of_ble_eq_true rfl), (Nat.le_of_ble_eq_true rfl)⟩ (Nat.le_of_ble_eq_true rfl) (zi11_c h1) rfl (fun r195 M194 => ?_)
                                                      refine zx_aload_n (i := 2) (zd me_L_law_11 1 rfl) rfl 2 rfl ?_
                                                      refine zx_aload_n (i := 0) (zd me_L_law_11 2 rfl) rfl 0 rfl ?_
                                                      refine zx_iload (zd me_L_law_11 3 rfl) 4 rfl ?_
                                                      refine zx_iconst (v := 1) (zd me_L_law_11 4 rfl) (by decide) ?_
                                                      refine zx_iadd (zd me_L_law_11 5 rfl) ?_
                                                      refine zx_sld hs (zd me_L_law_11 6 rfl) (fun j196 => ?_)
                                                      refine zx_callVI1 (zd me_L_law_11 7 rfl) (mc_X12_through (zl C) h2 (xs j196) M194) lk_L_129 ⟨(Nat.le_of_ble_eq_true rfl), (Nat.le_of_ble_eq_true rfl)⟩ (Nat.le_of_ble_eq_true rfl) (zi12_c h2) rfl (fun r198 M197 => ?_)
                                                      refine zx_icmp_eq (tgt := 1432) (zd me_L_law_11 8 rfl) (by decide) (fun c199 => ?_) (fun c199 => ?_)
                                                      · refine zx_iinc (v := 6) (ls' := [(4, .int (i4 + 6)), (0, .ref (zBIG + 60)), (1, .ref a1), (2, .ref a2), (3, .ref a3)]) (zd me_L_law_21 0 rfl) (Nat.le_of_ble_eq_true rfl) 4 rfl (by decide) rfl ?_
                                                        refine zx_goto (tgt := 23) (zd me_L_law_21 1 rfl) (by decide) ?_
                                                        refine zx_loc [1, 2, 3, 4, 0] rfl ?_
                                                        exact ih (k + 1) (n + 6) (by omega) (by omega) (i4 + 6) M197
                                                      · refine zx_iconst (v := 0) (zd me_L_law_11 9 rfl) (by decide) ?_
                                                        exact zx_none
                                                    · refine zx_ite (fun c200 => ?_) (fun c200 => ?_)
                                                      · refine zx_tin (off := 819) (tgt := 859) (zd me_L_law_0 24 rfl) (by rw [c200]; decide) (by rw [c200]; decide) (by rw [c200]; rfl) (by decide) ?_
                                                        refine zx_widen (k' := k + 1) (n' := n + 6) (by omega) (by omega) ⟨by show k + 1 ≤ 601024; omega, by show n + 6 ≤ 7293034; omega⟩ ?_
                                                        refine zx_aload_n (i := 1) (zd me_L_law_11 11 rfl) rfl 1 rfl ?_
                                                        refine zx_aload_n (i := 0) (zd me_L_law_11 12 rfl) rfl 0 rfl ?_
                                                        refine zx_iload (zd me_L_law_11 13 rfl) 4 rfl ?_
                                                        refine zx_iconst (v := 1) (zd me_L_law_11 14 rfl) (by decide) ?_
                                                        refine zx_iadd (zd me_L_law_11 15 rfl) ?_
                                                        refine zx_sld hs (zd me_L_law_11 16 rfl) (fun j201 => ?_)
                                                        refine zx_aload_n (i := 0) (zd me_L_law_11 17 rfl) rfl 0 rfl ?_
                                                        refine zx_iload (zd me_L_law_11 18 rfl) 4 rfl ?_
                                                        refine zx_iconst (v := 2) (zd me_L_law_11 19 rfl) (by decide) ?_
                                                        refine zx_iadd (zd me_L_law_11 20 rfl) ?_
                                                        refine zx_sld hs (zd me_L_law_11 21 rfl) (fun j202 => ?_)
                                                        refine zx_callVI2 (zd me_L_law_11 22 rfl) (mc_X11_gap (zl C) h1 (xs j201) (xs j202) M) lk_L_130 ⟨(Nat.le_of_ble_eq_true rfl), (Nat.le_of_ble_eq_true rfl)⟩ (Nat.le_of_ble_eq_true rfl) (zi11_c h1) rfl (fun r204 M203 => ?_)
                                                        refine zx_aload_n (i := 2) (zd me_L_law_11 23 rfl) rfl 2 rfl ?_
                                                        refine zx_aload_n (i := 0) (zd me_L_law_11 24 rfl) rfl 0 rfl ?_
                                                        refine zx_iload (zd me_L_law_11 25 rfl) 4 rfl ?_
                                                        refine zx_iconst (v := 1) (zd me_L_law_11 26 rfl) (by decide) ?_
                                                        refine zx_iadd (zd me_L_law_11 27 rfl) ?_
                                                        refine zx_sld hs (zd me_L_law_11 28 rfl) (fun j205 => ?_)
                                                        refine zx_aload_n (i := 0) (zd me_L_law_11 29 rfl) rfl 0 rfl ?_
                                                        refine zx_iload (zd me_L_law_11 30 rfl) 4 rfl ?_
                                                        refine zx_iconst (v := 2) (zd me_L_law_11 31 rfl) (by decide) ?_
                                                        refine zx_iadd (zd me_L_law_11 32 rfl) ?_
                                                        refine zx_sld hs (zd me_L_law_11 33 rfl) (fun j206 => ?_)
                                                        refine zx_callVI2 (zd me_L_law_11 34 rfl) (mc_X12_gap (zl C) h2 (xs j205) (xs j206) M203) lk_L_133 ⟨(Nat.le_of_ble_eq_true rfl), (Nat.le_of_ble_eq_true rfl)⟩ (Nat.le_of_ble_eq_true rfl) (zi12_c h2) rfl (fun r208 M207 => ?_)
                                                        refine zx_icmp_eq (tgt := 1432) (zd me_L_law_11 35 rfl) (by decide) (fun c209 => ?_) (fun c209 => ?_)
                                                        · refine zx_iinc (v := 6) (ls' := [(4, .int (i4 + 6)), (0, .ref (zBIG + 60)), (1, .ref a1), (2, .ref a2), (3, .ref a3)]) (zd me_L_law_21 0 rfl) (Nat.le_of_ble_eq_true rfl) 4 rfl (by decide) rfl ?_
                                                          refine zx_goto (tgt := 23) (zd me_L_law_21 1 rfl) (by decide) ?_
                                                          refine zx_loc [1, 2, 3, 4, 0] rfl ?_
                                                          exact ih (k + 1) (n + 6) (by omega) (by omega) (i4 + 6) M207
                                                        · refine zx_iconst (v := 0) (zd me_L_law_11 36 rfl) (by decide) ?_
                                                          exact zx_none
                                                      · refine zx_ite (fun c210 => ?_) (fun c210 => ?_)
                                                        · refine zx_tin (off := 856) (tgt := 896) (zd me_L_law_0 24 rfl) (by rw [c210]; decide) (by rw [c210]; decide) (by rw [c210]; rfl) (by decide) ?_
                                                          refine zx_widen (k' := k + 1) (n' := n + 6) (by omega) (by omega) ⟨by show k + 1 ≤ 601024; omega, by show n + 6 ≤ 7293034; omega⟩ ?_
                                                          refine zx_aload_n (i := 1) (zd me_L_law_11 38 rfl) rfl 1 rfl ?_
                                                          refine zx_callVI0 (zd me_L_law_11 39 rfl) (mc_X11_chain (zl C) h1 M) lk_L_134 ⟨(Nat.le_of_ble_eq_true rfl), (Nat.le_of_ble_eq_true rfl)⟩ (Nat.le_of_ble_eq_true rfl) (zi11_c h1) rfl (fun r212 M211 => ?_)
                                                          refine zx_aload_n (i := 2) (zd me_L_law_12 0 rfl) rfl 2 rfl ?_
                                                          refine zx_callVI0 (zd me_L_law_12 1 rfl) (mc_X12_chain (zl C) h2 M211) lk_L_137 ⟨(Nat.le_of_ble_eq_true rfl), (Nat.le_of_ble_eq_true rfl)⟩ (Nat.le_of_ble_eq_true rfl) (zi12_c h2) rfl (fun r214 M213 => ?_)
                                                          refine zx_icmp_eq (tgt := 1432) (zd me_L_law_12 2 rfl) (by decide) (fun c215 => ?_) (fun c215 => ?_)
                                                          · refine zx_iinc (v := 6) (ls' := [(4, .int (i4 + 6)), (0, .ref (zBIG + 60)), (1, .ref a1), (2, .ref a2), (3, .ref a3)]) (zd me_L_law_21 0 rfl) (Nat.le_of_ble_eq_true rfl) 4 rfl (by decide) rfl ?_
                                                            refine zx_goto (tgt := 23) (zd me_L_law_21 1 rfl) (by decide) ?_
                                                            refine zx_loc [1, 2, 3, 4, 0] rfl ?_
                                                            exact ih (k + 1) (n + 6) (by omega) (by omega) (i4 + 6) M213
                                                          · refine zx_iconst (v := 0) (zd me_L_law_12 3 rfl) (by decide) ?_
                                                            exact zx_none
                                                        · refine zx_ite (fun c216 => ?_) (fun c216 => ?_)
                                                          · refine zx_tin (off := 869) (tgt := 909) (zd me_L_law_0 24 rfl) (by rw [c216]; decide) (by rw [c216]; decide) (by rw [c216]; rfl) (by decide) ?_
                                                            refine zx_widen (k' := k + 1) (n' := n + 6) (by omega) (by omega) ⟨by show k + 1 ≤ 601024; omega, by show n + 6 ≤ 7293034; omega⟩ ?_
                                                            refine zx_aload_n (i := 1) (zd me_L_law_12 5 rfl) rfl 1 rfl ?_
                                                            refine zx_aload_n (i := 0) (zd me_L_law_12 6 rfl) rfl 0 rfl ?_
                                                            refine zx_iload (zd me_L_law_12 7 rfl) 4 rfl ?_
                                                            refine zx_iconst (v := 1) (zd me_L_law_12 8 rfl) (by decide) ?_
                                                            refine zx_iadd (zd me_L_law_12 9 rfl) ?_
                                                            refine zx_sld hs (zd me_L_law_12 10 rfl) (fun j217 => ?_)
                                                            refine zx_callVI1 (zd me_L_law_12 11 rfl) (mc_X11_chainAt (zl C) h1 (xs j217) M) lk_L_138 ⟨(Nat.le_of_ble_eq_true rfl), (Nat.le_of_ble_eq_true rfl)⟩ (Nat.le_of_ble_eq_true rfl) (zi11_c h1) rfl (fun r219 M218 => ?_)
                                                            refine zx_aload_n (i := 2) (zd me_L_law_12 12 rfl) rfl 2 rfl ?_
                                                            refine zx_aload_n (i := 0) (zd me_L_law_12 13 rfl) rfl 0 rfl ?_
                                                            refine zx_iload (zd me_L_law_12 14 rfl) 4 rfl ?_
                                                            refine zx_iconst (v := 1) (zd me_L_law_12 15 rfl) (by decide) ?_
                                                            refine zx_iadd (zd me_L_law_12 16 rfl) ?_
                                                            refine zx_sld hs (zd me_L_law_12 17 rfl) (fun j220 => ?_)
                                                            refine zx_callVI1 (zd me_L_law_12 18 rfl) (mc_X12_chainAt (zl C) h2 (xs j220) M218) lk_L_141 ⟨(Nat.le_of_ble_eq_true rfl), (Nat.le_of_ble_eq_true rfl)⟩ (Nat.le_of_ble_eq_true rfl) (zi12_c h2) rfl (fun r222 M221 => ?_)
                                                            refine zx_icmp_eq (tgt := 1432) (zd me_L_law_12 19 rfl) (by decide) (fun c223 => ?_) (fun c223 => ?_)
                                                            · refine zx_iinc (v := 6) (ls' := [(4, .int (i4 + 6)), (0, .ref (zBIG + 60)), (1, .ref a1), (2, .ref a2), (3, .ref a3)]) (zd me_L_law_21 0 rfl) (Nat.le_of_ble_eq_true rfl) 4 rfl (by decide) rfl ?_
                                                              refine zx_goto (tgt := 23) (zd me_L_law_21 1 rfl) (by decide) ?_
                                                              refine zx_loc [1, 2, 3, 4, 0] rfl ?_
                                                              exact ih (k + 1) (n + 6) (by omega) (by omega) (i4 + 6) M221
                                                            · refine zx_iconst (v := 0) (zd me_L_law_12 20 rfl) (by decide) ?_
                                                              exact zx_none
                                                          · refine zx_ite (fun c224 => ?_) (fun c224 => ?_)
                                                            · refine zx_tin (off := 894) (tgt := 934) (zd me_L_law_0 24 rfl) (by rw [c224]; decide) (by rw [c224]; decide) (by rw [c224]; rfl) (by decide) ?_
                                                              refine zx_widen (k' := k + 1) (n' := n + 6) (by omega) (by omega) ⟨by show k + 1 ≤ 601024; omega, by show n + 6 ≤ 7293034; omega⟩ ?_
                                                              refine zx_aload_n (i := 1) (zd me_L_law_12 22 rfl) rfl 1 rfl ?_
                                                              refine zx_aload_n (i := 0) (zd me_L_law_12 23 rfl) rfl 0 rfl ?_
                                                              refine zx_iload (zd me_L_law_12 24 rfl) 4 rfl ?_
                                                              refine zx_iconst (v := 1) (zd me_L_law_12 25 rfl) (by decide) ?_
                                                              refine zx_iadd (zd me_L_law_12 26 rfl) ?_
                                                              refine zx_sld hs (zd me_L_law_12 27 rfl) (fun j225 => ?_)
                                                              refine zx_aload_n (i := 0) (zd me_L_law_12 28 rfl) rfl 0 rfl ?_
                                                              refine zx_iload (zd me_L_law_12 29 rfl) 4 rfl ?_
                                                              refine zx_iconst (v := 2) (zd me_L_law_12 30 rfl) (by decide) ?_
                                                              refine zx_iadd (zd me_L_law_12 31 rfl) ?_
                                                              refine zx_sld hs (zd me_L_law_12 32 rfl) (fun j226 => ?_)
                                                              refine zx_callVI2 (zd me_L_law_12 33 rfl) (mc_X11_load (zl C) h1 (xs j225) (xs j226) M) lk_L_142 ⟨(Nat.le_of_ble_eq_true rfl), (Nat.le_of_ble_eq_true rfl)⟩ (Nat.le_of_ble_eq_true rfl) (zi11_c h1) rfl (fun r228 M227 => ?_)
                                                              refine zx_aload_n (i := 2) (zd me_L_law_12 34 rfl) rfl 2 rfl ?_
                                                              refine zx_aload_n (i := 0) (zd me_L_law_12 35 rfl) rfl 0 rfl ?_
                                                              refine zx_iload (zd me_L_law_12 36 rfl) 4 rfl ?_
                                                              refine zx_iconst (v := 1) (zd me_L_law_12 37 rfl) (by decide) ?_
                                                              refine zx_iadd (zd me_L_law_12 38 rfl) ?_
                                                              refine zx_sld hs (zd me_L_law_12 39 rfl) (fun j229 => ?_)
                                                              refine zx_aload_n (i := 0) (zd me_L_law_13 0 rfl) rfl 0 rfl ?_
                                                              refine zx_iload (zd me_L_law_13 1 rfl) 4 rfl ?_
                                                              refine zx_iconst (v := 2) (zd me_L_law_13 2 rfl) (by decide) ?_
                                                              refine zx_iadd (zd me_L_law_13 3 rfl) ?_
                                                              refine zx_sld hs (zd me_L_law_13 4 rfl) (fun j230 => ?_)
                                                              refine zx_callVI2 (zd me_L_law_13 5 rfl) (mc_X12_load (zl C) h2 (xs j229) (xs j230) M227) lk_L_145 ⟨(Nat.le_of_ble_eq_true rfl), (Nat.le_of_ble_eq_true rfl)⟩ (Nat.le_of_ble_eq_true rfl) (zi12_c h2) rfl (fun r232 M231 => ?_)
                                                              refine zx_icmp_eq (tgt := 1432) (zd me_L_law_13 6 rfl) (by decide) (fun c233 => ?_) (fun c233 => ?_)
                                                              · refine zx_iinc (v := 6) (ls' := [(4, .int (i4 + 6)), (0, .ref (zBIG + 60)), (1, .ref a1), (2, .ref a2), (3, .ref a3)]) (zd me_L_law_21 0 rfl) (Nat.le_of_ble_eq_true rfl) 4 rfl (by decide) rfl ?_
                                                                refine zx_goto (tgt := 23) (zd me_L_law_21 1 rfl) (by decide) ?_
                                                                refine zx_loc [1, 2, 3, 4, 0] rfl ?_
                                                                exact ih (k + 1) (n + 6) (by omega) (by omega) (i4 + 6) M231
                                                              · refine zx_iconst (v := 0) (zd me_L_law_13 7 rfl) (by decide) ?_
                                                                exact zx_none
                                                            · refine zx_ite (fun c234 => ?_) (fun c234 => ?_)
                                                              · refine zx_tin (off := 931) (tgt := 971) (zd me_L_law_0 24 rfl) (by rw [c234]; decide) (by rw [c234]; decide) (by rw [c234]; rfl) (by decide) ?_
                                                                refine zx_widen (k' := k + 1) (n' := n + 6) (by omega) (by omega) ⟨by show k + 1 ≤ 601024; omega, by show n + 6 ≤ 7293034; omega⟩ ?_
                                                                refine zx_aload_n (i := 1) (zd me_L_law_13 9 rfl) rfl 1 rfl ?_
                                                                refine zx_aload_n (i := 0) (zd me_L_law_13 10 rfl) rfl 0 rfl ?_
                                                                refine zx_iload (zd me_L_law_13 11 rfl) 4 rfl ?_
                                                                refine zx_iconst (v := 1) (zd me_L_law_13 12 rfl) (by decide) ?_
                                                                refine zx_iadd (zd me_L_law_13 13 rfl) ?_
                                                                refine zx_sld hs (zd me_L_law_13 14 rfl) (fun j235 => ?_)
                                                                refine zx_callVI1 (zd me_L_law_13 15 rfl) (mc_X11_block (zl C) h1 (xs j235) M) lk_L_146 ⟨(Nat.le_of_ble_eq_true rfl), (Nat.le_of_ble_eq_true rfl)⟩ (Nat.le_of_ble_eq_true rfl) (zi11_c h1) rfl (fun r237 M236 => ?_)
                                                                refine zx_aload_n (i := 2) (zd me_L_law_13 16 rfl) rfl 2 rfl ?_
                                                                refine zx_aload_n (i := 0) (zd me_L_law_13 17 rfl) rfl 0 rfl ?_
                                                                refine zx_iload (zd me_L_law_13 18 rfl) 4 rfl ?_
                                                                refine zx_iconst (v := 1) (zd me_L_law_13 19 rfl) (by decide) ?_
                                                                refine zx_iadd (zd me_L_law_13 20 rfl) ?_
                                                                refine zx_sld hs (zd me_L_law_13 21 rfl) (fun j238 => ?_)
                                                                refine zx_callVI1 (zd me_L_law_13 22 rfl) (mc_X12_block (zl C) h2 (xs j238) M236) lk_L_149 ⟨(Nat.le_of_ble_eq_true rfl), (Nat.le_of_ble_eq_true rfl)⟩ (Nat.le_of_ble_eq_true rfl) (zi12_c h2) rfl (fun r240 M239 => ?_)
                                                                refine zx_icmp_eq (tgt := 1432) (zd me_L_law_13 23 rfl) (by decide) (fun c241 => ?_) (fun c241 => ?_)
                                                                · refine zx_iinc (v := 6) (ls' := [(4, .int (i4 + 6)), (0, .ref (zBIG + 60)), (1, .ref a1), (2, .ref a2), (3, .ref a3)]) (zd me_L_law_21 0 rfl) (Nat.le_of_ble_eq_true rfl) 4 rfl (by decide) rfl ?_
                                                                  refine zx_goto (tgt := 23) (zd me_L_law_21 1 rfl) (by decide) ?_
                                                                  refine zx_loc [1, 2, 3, 4, 0] rfl ?_
                                                                  exact ih (k + 1) (n + 6) (by omega) (by omega) (i4 + 6) M239
                                                                · refine zx_iconst (v := 0) (zd me_L_law_13 24 rfl) (by decide) ?_
                                                                  exact zx_none
                                                              · refine zx_ite (fun c242 => ?_) (fun c242 => ?_)
                                                                · refine zx_tin (off := 956) (tgt := 996) (zd me_L_law_0 24 rfl) (by rw [c242]; decide) (by rw [c242]; decide) (by rw [c242]; rfl) (by decide) ?_
                                                                  refine zx_aload_n (i := 1) (zd me_L_law_13 26 rfl) rfl 1 rfl ?_
                                                                  refine zx_aload_n (i := 0) (zd me_L_law_13 27 rfl) rfl 0 rfl ?_
                                                                  refine zx_iload (zd me_L_law_13 28 rfl) 4 rfl ?_
                                                                  refine zx_iconst (v := 1) (zd me_L_law_13 29 rfl) (by decide) ?_
                                                                  refine zx_iadd (zd me_L_law_13 30 rfl) ?_
                                                                  refine zx_sld hs (zd me_L_law_13 31 rfl) (fun j243 => ?_)
                                                                  refine zx_aload_n (i := 0) (zd me_L_law_13 32 rfl) rfl 0 rfl ?_
                                                                  refine zx_iload (zd me_L_law_13 33 rfl) 4 rfl ?_
                                                                  refine zx_iconst (v := 2) (zd me_L_law_13 34 rfl) (by decide) ?_
                                                                  refine zx_iadd (zd me_L_law_13 35 rfl) ?_
                                                                  refine zx_sld hs (zd me_L_law_13 36 rfl) (fun j244 => ?_)
                                                                  refine zx_aload_n (i := 3) (zd me_L_law_13 37 rfl) rfl 3 rfl ?_
                                                                  refine zx_callW (as := [.ref a1, .int (xs j243), .int (xs j244), .ref a3]) (zd me_L_law_13 38 rfl) (mc_L_wear (zl C) hst h1 h3 (xs j243) (xs j244) M) lk_L_150 ⟨(Nat.le_of_ble_eq_true rfl), (Nat.le_of_ble_eq_true rfl)⟩ (Nat.le_of_ble_eq_true rfl) rfl ⟨by show k + 1 ≤ 601024; omega, by show n + 6 ≤ 7293034; omega⟩ rfl (fun r246 M245 => ?_)
                                                                  refine zx_istore (ls' := [(5, .int r246), (0, .ref (zBIG + 60)), (1, .ref a1), (2, .ref a2), (3, .ref a3), (4, .int i4)]) (zd me_L_law_13 39 rfl) (Nat.le_of_ble_eq_true rfl) rfl ?_
                                                                  refine zx_aload_n (i := 2) (zd me_L_law_14 0 rfl) rfl 3 rfl ?_
                                                                  refine zx_aload_n (i := 0) (zd me_L_law_14 1 rfl) rfl 1 rfl ?_
                                                                  refine zx_iload (zd me_L_law_14 2 rfl) 5 rfl ?_
                                                                  refine zx_iconst (v := 1) (zd me_L_law_14 3 rfl) (by decide) ?_
                                                                  refine zx_iadd (zd me_L_law_14 4 rfl) ?_
                                                                  refine zx_sld hs (zd me_L_law_14 5 rfl) (fun j247 => ?_)
                                                                  refine zx_aload_n (i := 0) (zd me_L_law_14 6 rfl) rfl 1 rfl ?_
                                                                  refine zx_iload (zd me_L_law_14 7 rfl) 5 rfl ?_
                                                                  refine zx_iconst (v := 2) (zd me_L_law_14 8 rfl) (by decide) ?_
                                                                  refine zx_iadd (zd me_L_law_14 9 rfl) ?_
                                                                  refine zx_sld hs (zd me_L_law_14 10 rfl) (fun j248 => ?_)
                                                                  refine zx_callVI2 (zd me_L_law_14 11 rfl) (mc_X12_wear (zl C) h2 (xs j247) (xs j248) M245) lk_L_152 ⟨(Nat.le_of_ble_eq_true rfl), (Nat.le_of_ble_eq_true rfl)⟩ (Nat.le_of_ble_eq_true rfl) (zi12_c h2) rfl (fun r250 M249 => ?_)
                                                                  refine zx_istore (ls' := [(6, .int r250), (5, .int r246), (0, .ref (zBIG + 60)), (1, .ref a1), (2, .ref a2), (3, .ref a3), (4, .int i4)]) (zd me_L_law_14 12 rfl) (Nat.le_of_ble_eq_true rfl) rfl ?_
                                                                  refine zx_aload_n (i := 2) (zd me_L_law_14 13 rfl) rfl 4 rfl ?_
                                                                  refine zx_callVI0 (zd me_L_law_14 14 rfl) (mc_X12_thrown (zl C) h2 M249) lk_L_59 ⟨(Nat.le_of_ble_eq_true rfl), (Nat.le_of_ble_eq_true rfl)⟩ (Nat.le_of_ble_eq_true rfl) (zi12_c h2) rfl (fun r252 M251 => ?_)
                                                                  refine zx_iload (zd me_L_law_14 15 rfl) 1 rfl ?_
                                                                  refine zx_icmp_eq (tgt := 1044) (zd me_L_law_14 16 rfl) (by decide) (fun c253 => ?_) (fun c253 => ?_)
                                                                  · refine zx_iload (zd me_L_law_14 19 rfl) 1 rfl ?_
                                                                    refine zx_if_ne (tgt := 1061) (zd me_L_law_14 20 rfl) (by decide) (fun c254 => ?_) (fun c254 => ?_)
                                                                    · refine zx_goto (tgt := 1432) (zd me_L_law_14 30 rfl) (by decide) ?_
                                                                      refine zx_iinc (v := 6) (ls' := [(4, .int (i4 + 6)), (6, .int r250), (5, .int r246), (0, .ref (zBIG + 60)), (1, .ref a1), (2, .ref a2), (3, .ref a3)]) (zd me_L_law_21 0 rfl) (Nat.le_of_ble_eq_true rfl) 6 rfl (by decide) rfl ?_
                                                                      refine zx_goto (tgt := 23) (zd me_L_law_21 1 rfl) (by decide) ?_
                                                                      refine zx_loc [3, 4, 5, 6, 0] rfl ?_
                                                                      exact ih (k + 1) (n + 6) (by omega) (by omega) (i4 + 6) M251
                                                                    · refine zx_aload_n (i := 3) (zd me_L_law_14 21 rfl) rfl 5 rfl ?_
                                                                      refine zx_iconst (v := 0) (zd me_L_law_14 22 rfl) (by decide) ?_
                                                                      refine zx_lald (zd me_L_law_14 23 rfl) h3 (fun j255 hj255 => ?_)
                                                                      refine zx_iload (zd me_L_law_14 24 rfl) 0 rfl ?_
                                                                      refine zx_i2l (zd me_L_law_14 25 rfl) ?_
                                                                      refine zx_lcmp (zd me_L_law_14 26 rfl) ?_
                                                                      refine zx_if_eq (tgt := 1061) (zd me_L_law_14 27 rfl) (by decide) (fun c256 => ?_) (fun c256 => ?_)
                                                                      · refine zx_goto (tgt := 1432) (zd me_L_law_14 30 rfl) (by decide) ?_
                                                                        refine zx_iinc (v := 6) (ls' := [(4, .int (i4 + 6)), (6, .int r250), (5, .int r246), (0, .ref (zBIG + 60)), (1, .ref a1), (2, .ref a2), (3, .ref a3)]) (zd me_L_law_21 0 rfl) (Nat.le_of_ble_eq_true rfl) 6 rfl (by decide) rfl ?_
                                                                        refine zx_goto (tgt := 23) (zd me_L_law_21 1 rfl) (by decide) ?_
                                                                        refine zx_loc [3, 4, 5, 6, 0] rfl ?_
                                                                        exact ih (k + 1) (n + 6) (by omega) (by omega) (i4 + 6) M251
                                                                      · refine zx_iconst (v := 0) (zd me_L_law_14 28 rfl) (by decide) ?_
                                                                        exact zx_none
                                                                  · refine zx_iconst (v := 0) (zd me_L_law_14 17 rfl) (by decide) ?_
                                                                    exact zx_none
                                                                · refine zx_ite (fun c257 => ?_) (fun c257 => ?_)
                                                                  · refine zx_tin (off := 1024) (tgt := 1064) (zd me_L_law_0 24 rfl) (by rw [c257]; decide) (by rw [c257]; decide) (by rw [c257]; rfl) (by decide) ?_
                                                                    refine zx_aload_n (i := 1) (zd me_L_law_14 31 rfl) rfl 1 rfl ?_
                                                                    refine zx_aload_n (i := 0) (zd me_L_law_14 32 rfl) rfl 0 rfl ?_
                                                                    refine zx_iload (zd me_L_law_14 33 rfl) 4 rfl ?_
                                                                    refine zx_iconst (v := 1) (zd me_L_law_14 34 rfl) (by decide) ?_
                                                                    refine zx_iadd (zd me_L_law_14 35 rfl) ?_
                                                                    refine zx_sld hs (zd me_L_law_14 36 rfl) (fun j258 => ?_)
                                                                    refine zx_aload_n (i := 3) (zd me_L_law_14 37 rfl) rfl 3 rfl ?_
                                                                    refine zx_callW (as := [.ref a1, .int (xs j258), .ref a3]) (zd me_L_law_14 38 rfl) (mc_L_mean (zl C) hst h1 h3 (xs j258) M) lk_L_153 ⟨(Nat.le_of_ble_eq_true rfl), (Nat.le_of_ble_eq_true rfl)⟩ (Nat.le_of_ble_eq_true rfl) rfl ⟨by show k + 1 ≤ 601024; omega, by show n + 6 ≤ 7293034; omega⟩ rfl (fun r260 M259 => ?_)
                                                                    refine zx_istore (ls' := [(5, .int r260), (0, .ref (zBIG + 60)), (1, .ref a1), (2, .ref a2), (3, .ref a3), (4, .int i4)]) (zd me_L_law_14 39 rfl) (Nat.le_of_ble_eq_true rfl) rfl ?_
                                                                    refine zx_aload_n (i := 2) (zd me_L_law_15 0 rfl) rfl 3 rfl ?_
                                                                    refine zx_aload_n (i := 0) (zd me_L_law_15 1 rfl) rfl 1 rfl ?_
                                                                    refine zx_iload (zd me_L_law_15 2 rfl) 5 rfl ?_
                                                                    refine zx_iconst (v := 1) (zd me_L_law_15 3 rfl) (by decide) ?_
                                                                    refine zx_iadd (zd me_L_law_15 4 rfl) ?_
                                                                    refine zx_sld hs (zd me_L_law_15 5 rfl) (fun j261 => ?_)
                                                                    refine zx_callVI1 (zd me_L_law_15 6 rfl) (mc_X12_mean (zl C) h2 (xs j261) M259) lk_L_156 ⟨(Nat.le_of_ble_eq_true rfl), (Nat.le_of_ble_eq_true rfl)⟩ (Nat.le_of_ble_eq_true rfl) (zi12_c h2) rfl (fun r263 M262 => ?_)
                                                                    refine zx_istore (ls' := [(6, .int r263), (5, .int r260), (0, .ref (zBIG + 60)), (1, .ref a1), (2, .ref a2), (3, .ref a3), (4, .int i4)]) (zd me_L_law_15 7 rfl) (Nat.le_of_ble_eq_true rfl) rfl ?_
                                                                    refine zx_aload_n (i := 2) (zd me_L_law_15 8 rfl) rfl 4 rfl ?_
                                                                    refine zx_callVI0 (zd me_L_law_15 9 rfl) (mc_X12_thrown (zl C) h2 M262) lk_L_59 ⟨(Nat.le_of_ble_eq_true rfl), (Nat.le_of_ble_eq_true rfl)⟩ (Nat.le_of_ble_eq_true rfl) (zi12_c h2) rfl (fun r265 M264 => ?_)
                                                                    refine zx_iload (zd me_L_law_15 10 rfl) 1 rfl ?_
                                                                    refine zx_icmp_eq (tgt := 1100) (zd me_L_law_15 11 rfl) (by decide) (fun c266 => ?_) (fun c266 => ?_)
                                                                    · refine zx_iload (zd me_L_law_15 14 rfl) 1 rfl ?_
                                                                      refine zx_if_ne (tgt := 1117) (zd me_L_law_15 15 rfl) (by decide) (fun c267 => ?_) (fun c267 => ?_)
                                                                      · refine zx_goto (tgt := 1432) (zd me_L_law_15 25 rfl) (by decide) ?_
                                                                        refine zx_iinc (v := 6) (ls' := [(4, .int (i4 + 6)), (6, .int r263), (5, .int r260), (0, .ref (zBIG + 60)), (1, .ref a1), (2, .ref a2), (3, .ref a3)]) (zd me_L_law_21 0 rfl) (Nat.le_of_ble_eq_true rfl) 6 rfl (by decide) rfl ?_
                                                                        refine zx_goto (tgt := 23) (zd me_L_law_21 1 rfl) (by decide) ?_
                                                                        refine zx_loc [3, 4, 5, 6, 0] rfl ?_
                                                                        exact ih (k + 1) (n + 6) (by omega) (by omega) (i4 + 6) M264
                                                                      · refine zx_aload_n (i := 3) (zd me_L_law_15 16 rfl) rfl 5 rfl ?_
                                                                        refine zx_iconst (v := 0) (zd me_L_law_15 17 rfl) (by decide) ?_
                                                                        refine zx_lald (zd me_L_law_15 18 rfl) h3 (fun j268 hj268 => ?_)
                                                                        refine zx_iload (zd me_L_law_15 19 rfl) 0 rfl ?_
                                                                        refine zx_i2l (zd me_L_law_15 20 rfl) ?_
                                                                        refine zx_lcmp (zd me_L_law_15 21 rfl) ?_
                                                                        refine zx_if_eq (tgt := 1117) (zd me_L_law_15 22 rfl) (by decide) (fun c269 => ?_) (fun c269 => ?_)
                                                                        · refine zx_goto (tgt := 1432) (zd me_L_law_15 25 rfl) (by decide) ?_
                                                                          refine zx_iinc (v := 6) (ls' := [(4, .int (i4 + 6)), (6, .int r263), (5, .int r260), (0, .ref (zBIG + 60)), (1, .ref a1), (2, .ref a2), (3, .ref a3)]) (zd me_L_law_21 0 rfl) (Nat.le_of_ble_eq_true rfl) 6 rfl (by decide) rfl ?_
                                                                          refine zx_goto (tgt := 23) (zd me_L_law_21 1 rfl) (by decide) ?_
                                                                          refine zx_loc [3, 4, 5, 6, 0] rfl ?_
                                                                          exact ih (k + 1) (n + 6) (by omega) (by omega) (i4 + 6) M264
                                                                        · refine zx_iconst (v := 0) (zd me_L_law_15 23 rfl) (by decide) ?_
                                                                          exact zx_none
                                                                    · refine zx_iconst (v := 0) (zd me_L_law_15 12 rfl) (by decide) ?_
                                                                      exact zx_none
                                                                  · refine zx_ite (fun c270 => ?_) (fun c270 => ?_)
                                                                    · refine zx_tin (off := 1080) (tgt := 1120) (zd me_L_law_0 24 rfl) (by rw [c270]; decide) (by rw [c270]; decide) (by rw [c270]; rfl) (by decide) ?_
                                                                      refine zx_widen (k' := k + 1) (n' := n + 6) (by omega) (by omega) ⟨by show k + 1 ≤ 601024; omega, by show n + 6 ≤ 7293034; omega⟩ ?_
                                                                      refine zx_aload_n (i := 1) (zd me_L_law_15 26 rfl) rfl 1 rfl ?_
                                                                      refine zx_callVI0 (zd me_L_law_15 27 rfl) (mc_X11_often (zl C) h1 M) lk_L_157 ⟨(Nat.le_of_ble_eq_true rfl), (Nat.le_of_ble_eq_true rfl)⟩ (Nat.le_of_ble_eq_true rfl) (zi11_c h1) rfl (fun r272 M271 => ?_)
                                                                      refine zx_aload_n (i := 2) (zd me_L_law_15 28 rfl) rfl 2 rfl ?_
                                                                      refine zx_callVI0 (zd me_L_law_15 29 rfl) (mc_X12_often (zl C) h2 M271) lk_L_160 ⟨(Nat.le_of_ble_eq_true rfl), (Nat.le_of_ble_eq_true rfl)⟩ (Nat.le_of_ble_eq_true rfl) (zi12_c h2) rfl (fun r274 M273 => ?_)
                                                                      refine zx_icmp_eq (tgt := 1432) (zd me_L_law_15 30 rfl) (by decide) (fun c275 => ?_) (fun c275 => ?_)
                                                                      · refine zx_iinc (v := 6) (ls' := [(4, .int (i4 + 6)), (0, .ref (zBIG + 60)), (1, .ref a1), (2, .ref a2), (3, .ref a3)]) (zd me_L_law_21 0 rfl) (Nat.le_of_ble_eq_true rfl) 4 rfl (by decide) rfl ?_
                                                                        refine zx_goto (tgt := 23) (zd me_L_law_21 1 rfl) (by decide) ?_
                                                                        refine zx_loc [1, 2, 3, 4, 0] rfl ?_
                                                                        exact ih (k + 1) (n + 6) (by omega) (by omega) (i4 + 6) M273
                                                                      · refine zx_iconst (v := 0) (zd me_L_law_15 31 rfl) (by decide) ?_
                                                                        exact zx_none
                                                                    · refine zx_ite (fun c276 => ?_) (fun c276 => ?_)
                                                                      · refine zx_tin (off := 1093) (tgt := 1133) (zd me_L_law_0 24 rfl) (by rw [c276]; decide) (by rw [c276]; decide) (by rw [c276]; rfl) (by decide) ?_
                                                                        refine zx_widen (k' := k + 1) (n' := n + 6) (by omega) (by omega) ⟨by show k + 1 ≤ 601024; omega, by show n + 6 ≤ 7293034; omega⟩ ?_
                                                                        refine zx_aload_n (i := 1) (zd me_L_law_15 33 rfl) rfl 1 rfl ?_
                                                                        refine zx_aload_n (i := 0) (zd me_L_law_15 34 rfl) rfl 0 rfl ?_
                                                                        refine zx_iload (zd me_L_law_15 35 rfl) 4 rfl ?_
                                                                        refine zx_iconst (v := 1) (zd me_L_law_15 36 rfl) (by decide) ?_
                                                                        refine zx_iadd (zd me_L_law_15 37 rfl) ?_
                                                                        refine zx_sld hs (zd me_L_law_15 38 rfl) (fun j277 => ?_)
                                                                        refine zx_callVI1 (zd me_L_law_15 39 rfl) (mc_X11_tag (zl C) h1 (xs j277) M) lk_L_161 ⟨(Nat.le_of_ble_eq_true rfl), (Nat.le_of_ble_eq_true rfl)⟩ (Nat.le_of_ble_eq_true rfl) (zi11_c h1) rfl (fun r279 M278 => ?_)
                                                                        refine zx_aload_n (i := 2) (zd me_L_law_16 0 rfl) rfl 2 rfl ?_
                                                                        refine zx_aload_n (i := 0) (zd me_L_law_16 1 rfl) rfl 0 rfl ?_
                                                                        refine zx_iload (zd me_L_law_16 2 rfl) 4 rfl ?_
                                                                        refine zx_iconst (v := 1) (zd me_L_law_16 3 rfl) (by decide) ?_
                                                                        refine zx_iadd (zd me_L_law_16 4 rfl) ?_
                                                                        refine zx_sld hs (zd me_L_law_16 5 rfl) (fun j280 => ?_)
                                                                        refine zx_callVI1 (zd me_L_law_16 6 rfl) (mc_X12_tag (zl C) h2 (xs j280) M278) lk_L_164 ⟨(Nat.le_of_ble_eq_true rfl), (Nat.le_of_ble_eq_true rfl)⟩ (Nat.le_of_ble_eq_true rfl) (zi12_c h2) rfl (fun r282 M281 => ?_)
                                                                        refine zx_icmp_eq (tgt := 1432) (zd me_L_law_16 7 rfl) (by decide) (fun c283 => ?_) (fun c283 => ?_)
                                                                        · refine zx_iinc (v := 6) (ls' := [(4, .int (i4 + 6)), (0, .ref (zBIG + 60)), (1, .ref a1), (2, .ref a2), (3, .ref a3)]) (zd me_L_law_21 0 rfl) (Nat.le_of_ble_eq_true rfl) 4 rfl (by decide) rfl ?_
                                                                          refine zx_goto (tgt := 23) (zd me_L_law_21 1 rfl) (by decide) ?_
                                                                          refine zx_loc [1, 2, 3, 4, 0] rfl ?_
                                                                          exact ih (k + 1) (n + 6) (by omega) (by omega) (i4 + 6) M281
                                                                        · refine zx_iconst (v := 0) (zd me_L_law_16 8 rfl) (by decide) ?_
                                                                          exact zx_none
                                                                      · refine zx_ite (fun c284 => ?_) (fun c284 => ?_)
                                                                        · refine zx_tin (off := 1118) (tgt := 1158) (zd me_L_law_0 24 rfl) (by rw [c284]; decide) (by rw [c284]; decide) (by rw [c284]; rfl) (by decide) ?_
                                                                          refine zx_widen (k' := k + 1) (n' := n + 6) (by omega) (by omega) ⟨by show k + 1 ≤ 601024; omega, by show n + 6 ≤ 7293034; omega⟩ ?_
                                                                          refine zx_aload_n (i := 1) (zd me_L_law_16 10 rfl) rfl 1 rfl ?_
                                                                          refine zx_aload_n (i := 0) (zd me_L_law_16 11 rfl) rfl 0 rfl ?_
                                                                          refine zx_iload (zd me_L_law_16 12 rfl) 4 rfl ?_
                                                                          refine zx_iconst (v := 1) (zd me_L_law_16 13 rfl) (by decide) ?_
                                                                          refine zx_iadd (zd me_L_law_16 14 rfl) ?_
                                                                          refine zx_sld hs (zd me_L_law_16 15 rfl) (fun j285 => ?_)
                                                                          refine zx_callVI1 (zd me_L_law_16 16 rfl) (mc_X11_byteAt (zl C) h1 (xs j285) M) lk_L_165 ⟨(Nat.le_of_ble_eq_true rfl), (Nat.le_of_ble_eq_true rfl)⟩ (Nat.le_of_ble_eq_true rfl) (zi11_c h1) rfl (fun r287 M286 => ?_)
                                                                          refine zx_aload_n (i := 2) (zd me_L_law_16 17 rfl) rfl 2 rfl ?_
                                                                          refine zx_aload_n (i := 0) (zd me_L_law_16 18 rfl) rfl 0 rfl ?_
                                                                          refine zx_iload (zd me_L_law_16 19 rfl) 4 rfl ?_
                                                                          refine zx_iconst (v := 1) (zd me_L_law_16 20 rfl) (by decide) ?_
                                                                          refine zx_iadd (zd me_L_law_16 21 rfl) ?_
                                                                          refine zx_sld hs (zd me_L_law_16 22 rfl) (fun j288 => ?_)
                                                                          refine zx_callVI1 (zd me_L_law_16 23 rfl) (mc_X12_byteAt (zl C) h2 (xs j288) M286) lk_L_168 ⟨(Nat.le_of_ble_eq_true rfl), (Nat.le_of_ble_eq_true rfl)⟩ (Nat.le_of_ble_eq_true rfl) (zi12_c h2) rfl (fun r290 M289 => ?_)
                                                                          refine zx_icmp_eq (tgt := 1432) (zd me_L_law_16 24 rfl) (by decide) (fun c291 => ?_) (fun c291 => ?_)
                                                                          · refine zx_iinc (v := 6) (ls' := [(4, .int (i4 + 6)), (0, .ref (zBIG + 60)), (1, .ref a1), (2, .ref a2), (3, .ref a3)]) (zd me_L_law_21 0 rfl) (Nat.le_of_ble_eq_true rfl) 4 rfl (by decide) rfl ?_
                                                                            refine zx_goto (tgt := 23) (zd me_L_law_21 1 rfl) (by decide) ?_
                                                                            refine zx_loc [1, 2, 3, 4, 0] rfl ?_
                                                                            exact ih (k + 1) (n + 6) (by omega) (by omega) (i4 + 6) M289
                                                                          · refine zx_iconst (v := 0) (zd me_L_law_16 25 rfl) (by decide) ?_
                                                                            exact zx_none
                                                                        · refine zx_ite (fun c292 => ?_) (fun c292 => ?_)
                                                                          · refine zx_tin (off := 1143) (tgt := 1183) (zd me_L_law_0 24 rfl) (by rw [c292]; decide) (by rw [c292]; decide) (by rw [c292]; rfl) (by decide) ?_
                                                                            refine zx_widen (k' := k + 1) (n' := n + 6) (by omega) (by omega) ⟨by show k + 1 ≤ 601024; omega, by show n + 6 ≤ 7293034; omega⟩ ?_
                                                                            refine zx_aload_n (i := 1) (zd me_L_law_16 27 rfl) rfl 1 rfl ?_
                                                                            refine zx_aload_n (i := 0) (zd me_L_law_16 28 rfl) rfl 0 rfl ?_
                                                                            refine zx_iload (zd me_L_law_16 29 rfl) 4 rfl ?_
                                                                            refine zx_iconst (v := 1) (zd me_L_law_16 30 rfl) (by decide) ?_
                                                                            refine zx_iadd (zd me_L_law_16 31 rfl) ?_
                                                                            refine zx_sld hs (zd me_L_law_16 32 rfl) (fun j293 => ?_)
                                                                            refine zx_aload_n (i := 0) (zd me_L_law_16 33 rfl) rfl 0 rfl ?_
                                                                            refine zx_iload (zd me_L_law_16 34 rfl) 4 rfl ?_
                                                                            refine zx_iconst (v := 2) (zd me_L_law_16 35 rfl) (by decide) ?_
                                                                            refine zx_iadd (zd me_L_law_16 36 rfl) ?_
                                                                            refine zx_sld hs (zd me_L_law_16 37 rfl) (fun j294 => ?_)
                                                                            refine zx_callVI2 (zd me_L_law_16 38 rfl) (mc_X11_drawn (zl C) h1 (xs j293) (xs j294) M) lk_L_169 ⟨(Nat.le_of_ble_eq_true rfl), (Nat.le_of_ble_eq_true rfl)⟩ (Nat.le_of_ble_eq_true rfl) (zi11_c h1) rfl (fun r296 M295 => ?_)
                                                                            refine zx_aload_n (i := 2) (zd me_L_law_16 39 rfl) rfl 2 rfl ?_
                                                                            refine zx_aload_n (i := 0) (zd me_L_law_17 0 rfl) rfl 0 rfl ?_
                                                                            refine zx_iload (zd me_L_law_17 1 rfl) 4 rfl ?_
                                                                            refine zx_iconst (v := 1) (zd me_L_law_17 2 rfl) (by decide) ?_
                                                                            refine zx_iadd (zd me_L_law_17 3 rfl) ?_
                                                                            refine zx_sld hs (zd me_L_law_17 4 rfl) (fun j297 => ?_)
                                                                            refine zx_aload_n (i := 0) (zd me_L_law_17 5 rfl) rfl 0 rfl ?_
                                                                            refine zx_iload (zd me_L_law_17 6 rfl) 4 rfl ?_
                                                                            refine zx_iconst (v := 2) (zd me_L_law_17 7 rfl) (by decide) ?_
                                                                            refine zx_iadd (zd me_L_law_17 8 rfl) ?_
                                                                            refine zx_sld hs (zd me_L_law_17 9 rfl) (fun j298 => ?_)
                                                                            refine zx_callVI2 (zd me_L_law_17 10 rfl) (mc_X12_drawn (zl C) h2 (xs j297) (xs j298) M295) lk_L_172 ⟨(Nat.le_of_ble_eq_true rfl), (Nat.le_of_ble_eq_true rfl)⟩ (Nat.le_of_ble_eq_true rfl) (zi12_c h2) rfl (fun r300 M299 => ?_)
                                                                            refine zx_icmp_eq (tgt := 1432) (zd me_L_law_17 11 rfl) (by decide) (fun c301 => ?_) (fun c301 => ?_)
                                                                            · refine zx_iinc (v := 6) (ls' := [(4, .int (i4 + 6)), (0, .ref (zBIG + 60)), (1, .ref a1), (2, .ref a2), (3, .ref a3)]) (zd me_L_law_21 0 rfl) (Nat.le_of_ble_eq_true rfl) 4 rfl (by decide) rfl ?_
                                                                              refine zx_goto (tgt := 23) (zd me_L_law_21 1 rfl) (by decide) ?_
                                                                              refine zx_loc [1, 2, 3, 4, 0] rfl ?_
                                                                              exact ih (k + 1) (n + 6) (by omega) (by omega) (i4 + 6) M299
                                                                            · refine zx_iconst (v := 0) (zd me_L_law_17 12 rfl) (by decide) ?_
                                                                              exact zx_none
                                                                          · refine zx_ite (fun c302 => ?_) (fun c302 => ?_)
                                                                            · refine zx_tin (off := 1180) (tgt := 1220) (zd me_L_law_0 24 rfl) (by rw [c302]; decide) (by rw [c302]; decide) (by rw [c302]; rfl) (by decide) ?_
                                                                              refine zx_widen (k' := k + 1) (n' := n + 6) (by omega) (by omega) ⟨by show k + 1 ≤ 601024; omega, by show n + 6 ≤ 7293034; omega⟩ ?_
                                                                              refine zx_aload_n (i := 1) (zd me_L_law_17 14 rfl) rfl 1 rfl ?_
                                                                              refine zx_aload_n (i := 0) (zd me_L_law_17 15 rfl) rfl 0 rfl ?_
                                                                              refine zx_iload (zd me_L_law_17 16 rfl) 4 rfl ?_
                                                                              refine zx_iconst (v := 1) (zd me_L_law_17 17 rfl) (by decide) ?_
                                                                              refine zx_iadd (zd me_L_law_17 18 rfl) ?_
                                                                              refine zx_sld hs (zd me_L_law_17 19 rfl) (fun j303 => ?_)
                                                                              refine zx_aload_n (i := 0) (zd me_L_law_17 20 rfl) rfl 0 rfl ?_
                                                                              refine zx_iload (zd me_L_law_17 21 rfl) 4 rfl ?_
                                                                              refine zx_iconst (v := 2) (zd me_L_law_17 22 rfl) (by decide) ?_
                                                                              refine zx_iadd (zd me_L_law_17 23 rfl) ?_
                                                                              refine zx_sld hs (zd me_L_law_17 24 rfl) (fun j304 => ?_)
                                                                              refine zx_aload_n (i := 0) (zd me_L_law_17 25 rfl) rfl 0 rfl ?_
                                                                              refine zx_iload (zd me_L_law_17 26 rfl) 4 rfl ?_
                                                                              refine zx_iconst (v := 3) (zd me_L_law_17 27 rfl) (by decide) ?_
                                                                              refine zx_iadd (zd me_L_law_17 28 rfl) ?_
                                                                              refine zx_sld hs (zd me_L_law_17 29 rfl) (fun j305 => ?_)
                                                                              refine zx_callVI3 (zd me_L_law_17 30 rfl) (mc_X11_odds (zl C) h1 (xs j303) (xs j304) (xs j305) M) lk_L_173 ⟨(Nat.le_of_ble_eq_true rfl), (Nat.le_of_ble_eq_true rfl)⟩ (Nat.le_of_ble_eq_true rfl) (zi11_c h1) rfl (fun r307 M306 => ?_)
                                                                              refine zx_aload_n (i := 2) (zd me_L_law_17 31 rfl) rfl 2 rfl ?_
                                                                              refine zx_aload_n (i := 0) (zd me_L_law_17 32 rfl) rfl 0 rfl ?_
                                                                              refine zx_iload (zd me_L_law_17 33 rfl) 4 rfl ?_
                                                                              refine zx_iconst (v := 1) (zd me_L_law_17 34 rfl) (by decide) ?_
                                                                              refine zx_iadd (zd me_L_law_17 35 rfl) ?_
                                                                              refine zx_sld hs (zd me_L_law_17 36 rfl) (fun j308 => ?_)
                                                                              refine zx_aload_n (i := 0) (zd me_L_law_17 37 rfl) rfl 0 rfl ?_
                                                                              refine zx_iload (zd me_L_law_17 38 rfl) 4 rfl ?_
                                                                              refine zx_iconst (v := 2) (zd me_L_law_17 39 rfl) (by decide) ?_
                                                                              refine zx_iadd (zd me_L_law_18 0 rfl) ?_
                                                                              refine zx_sld hs (zd me_L_law_18 1 rfl) (fun j309 => ?_)
                                                                              refine zx_aload_n (i := 0) (zd me_L_law_18 2 rfl) rfl 0 rfl ?_
                                                                              refine zx_iload (zd me_L_law_18 3 rfl) 4 rfl ?_
                                                                              refine zx_iconst (v := 3) (zd me_L_law_18 4 rfl) (by decide) ?_
                                                                              refine zx_iadd (zd me_L_law_18 5 rfl) ?_
                                                                              refine zx_sld hs (zd me_L_law_18 6 rfl) (fun j310 => ?_)
                                                                              refine zx_callVI3 (zd me_L_law_18 7 rfl) (mc_X12_odds (zl C) h2 (xs j308) (xs j309) (xs j310) M306) lk_L_177 ⟨(Nat.le_of_ble_eq_true rfl), (Nat.le_of_ble_eq_true rfl)⟩ (Nat.le_of_ble_eq_true rfl) (zi12_c h2) rfl (fun r312 M311 => ?_)
                                                                              refine zx_icmp_eq (tgt := 1432) (zd me_L_law_18 8 rfl) (by decide) (fun c313 => ?_) (fun c313 => ?_)
                                                                              · refine zx_iinc (v := 6) (ls' := [(4, .int (i4 + 6)), (0, .ref (zBIG + 60)), (1, .ref a1), (2, .ref a2), (3, .ref a3)]) (zd me_L_law_21 0 rfl) (Nat.le_of_ble_eq_true rfl) 4 rfl (by decide) rfl ?_
                                                                                refine zx_goto (tgt := 23) (zd me_L_law_21 1 rfl) (by decide) ?_
                                                                                refine zx_loc [1, 2, 3, 4, 0] rfl ?_
                                                                                exact ih (k + 1) (n + 6) (by omega) (by omega) (i4 + 6) M311
                                                                              · refine zx_iconst (v := 0) (zd me_L_law_18 9 rfl) (by decide) ?_
                                                                                exact zx_none
                                                                            · refine zx_ite (fun c314 => ?_) (fun c314 => ?_)
                                                                              · refine zx_tin (off := 1229) (tgt := 1269) (zd me_L_law_0 24 rfl) (by rw [c314]; decide) (by rw [c314]; decide) (by rw [c314]; rfl) (by decide) ?_
                                                                                refine zx_widen (k' := k + 1) (n' := n + 6) (by omega) (by omega) ⟨by show k + 1 ≤ 601024; omega, by show n + 6 ≤ 7293034; omega⟩ ?_
                                                                                refine zx_aload_n (i := 1) (zd me_L_law_18 11 rfl) rfl 1 rfl ?_
                                                                                refine zx_aload_n (i := 0) (zd me_L_law_18 12 rfl) rfl 0 rfl ?_
                                                                                refine zx_iload (zd me_L_law_18 13 rfl) 4 rfl ?_
                                                                                refine zx_iconst (v := 1) (zd me_L_law_18 14 rfl) (by decide) ?_
                                                                                refine zx_iadd (zd me_L_law_18 15 rfl) ?_
                                                                                refine zx_sld hs (zd me_L_law_18 16 rfl) (fun j315 => ?_)
                                                                                refine zx_callVI1 (zd me_L_law_18 17 rfl) (mc_X11_book (zl C) h1 (xs j315) M) lk_L_178 ⟨(Nat.le_of_ble_eq_true rfl), (Nat.le_of_ble_eq_true rfl)⟩ (Nat.le_of_ble_eq_true rfl) (zi11_c h1) rfl (fun r317 M316 => ?_)
                                                                                refine zx_aload_n (i := 2) (zd me_L_law_18 18 rfl) rfl 2 rfl ?_
                                                                                refine zx_aload_n (i := 0) (zd me_L_law_18 19 rfl) rfl 0 rfl ?_
                                                                                refine zx_iload (zd me_L_law_18 20 rfl) 4 rfl ?_
                                                                                refine zx_iconst (v := 1) (zd me_L_law_18 21 rfl) (by decide) ?_
                                                                                refine zx_iadd (zd me_L_law_18 22 rfl) ?_
                                                                                refine zx_sld hs (zd me_L_law_18 23 rfl) (fun j318 => ?_)
                                                                                refine zx_callVI1 (zd me_L_law_18 24 rfl) (mc_X12_book (zl C) h2 (xs j318) M316) lk_L_181 ⟨(Nat.le_of_ble_eq_true rfl), (Nat.le_of_ble_eq_true rfl)⟩ (Nat.le_of_ble_eq_true rfl) (zi12_c h2) rfl (fun r320 M319 => ?_)
                                                                                refine zx_icmp_eq (tgt := 1432) (zd me_L_law_18 25 rfl) (by decide) (fun c321 => ?_) (fun c321 => ?_)
                                                                                · refine zx_iinc (v := 6) (ls' := [(4, .int (i4 + 6)), (0, .ref (zBIG + 60)), (1, .ref a1), (2, .ref a2), (3, .ref a3)]) (zd me_L_law_21 0 rfl) (Nat.le_of_ble_eq_true rfl) 4 rfl (by decide) rfl ?_
                                                                                  refine zx_goto (tgt := 23) (zd me_L_law_21 1 rfl) (by decide) ?_
                                                                                  refine zx_loc [1, 2, 3, 4, 0] rfl ?_
                                                                                  exact ih (k + 1) (n + 6) (by omega) (by omega) (i4 + 6) M319
                                                                                · refine zx_iconst (v := 0) (zd me_L_law_18 26 rfl) (by decide) ?_
                                                                                  exact zx_none
                                                                              · refine zx_ite (fun c322 => ?_) (fun c322 => ?_)
                                                                                · refine zx_tin (off := 1254) (tgt := 1294) (zd me_L_law_0 24 rfl) (by rw [c322]; decide) (by rw [c322]; decide) (by rw [c322]; rfl) (by decide) ?_
                                                                                  refine zx_widen (k' := k + 1) (n' := n + 6) (by omega) (by omega) ⟨by show k + 1 ≤ 601024; omega, by show n + 6 ≤ 7293034; omega⟩ ?_
                                                                                  refine zx_aload_n (i := 1) (zd me_L_law_18 28 rfl) rfl 1 rfl ?_
                                                                                  refine zx_aload_n (i := 0) (zd me_L_law_18 29 rfl) rfl 0 rfl ?_
                                                                                  refine zx_iload (zd me_L_law_18 30 rfl) 4 rfl ?_
                                                                                  refine zx_iconst (v := 1) (zd me_L_law_18 31 rfl) (by decide) ?_
                                                                                  refine zx_iadd (zd me_L_law_18 32 rfl) ?_
                                                                                  refine zx_sld hs (zd me_L_law_18 33 rfl) (fun j323 => ?_)
                                                                                  refine zx_callVI1 (zd me_L_law_18 34 rfl) (mc_X11_told (zl C) h1 (xs j323) M) lk_L_182 ⟨(Nat.le_of_ble_eq_true rfl), (Nat.le_of_ble_eq_true rfl)⟩ (Nat.le_of_ble_eq_true rfl) (zi11_c h1) rfl (fun r325 M324 => ?_)
                                                                                  refine zx_aload_n (i := 2) (zd me_L_law_18 35 rfl) rfl 2 rfl ?_
                                                                                  refine zx_aload_n (i := 0) (zd me_L_law_18 36 rfl) rfl 0 rfl ?_
                                                                                  refine zx_iload (zd me_L_law_18 37 rfl) 4 rfl ?_
                                                                                  refine zx_iconst (v := 1) (zd me_L_law_18 38 rfl) (by decide) ?_
                                                                                  refine zx_iadd (zd me_L_law_18 39 rfl) ?_
                                                                                  refine zx_sld hs (zd me_L_law_19 0 rfl) (fun j326 => ?_)
                                                                                  refine zx_callVI1 (zd me_L_law_19 1 rfl) (mc_X12_told (zl C) h2 (xs j326) M324) lk_L_185 ⟨(Nat.le_of_ble_eq_true rfl), (Nat.le_of_ble_eq_true rfl)⟩ (Nat.le_of_ble_eq_true rfl) (zi12_c h2) rfl (fun r328 M327 => ?_)
                                                                                  refine zx_icmp_eq (tgt := 1432) (zd me_L_law_19 2 rfl) (by decide) (fun c329 => ?_) (fun c329 => ?_)
                                                                                  · refine zx_iinc (v := 6) (ls' := [(4, .int (i4 + 6)), (0, .ref (zBIG + 60)), (1, .ref a1), (2, .ref a2), (3, .ref a3)]) (zd me_L_law_21 0 rfl) (Nat.le_of_ble_eq_true rfl) 4 rfl (by decide) rfl ?_
                                                                                    refine zx_goto (tgt := 23) (zd me_L_law_21 1 rfl) (by decide) ?_
                                                                                    refine zx_loc [1, 2, 3, 4, 0] rfl ?_
                                                                                    exact ih (k + 1) (n + 6) (by omega) (by omega) (i4 + 6) M327
                                                                                  · refine zx_iconst (v := 0) (zd me_L_law_19 3 rfl) (by decide) ?_
                                                                                    exact zx_none
                                                                                · refine zx_ite (fun c330 => ?_) (fun c330 => ?_)
                                                                                  · refine zx_tin (off := 1279) (tgt := 1319) (zd me_L_law_0 24 rfl) (by rw [c330]; decide) (by rw [c330]; decide) (by rw [c330]; rfl) (by decide) ?_
                                                                                    refine zx_widen (k' := k + 1) (n' := n + 6) (by omega) (by omega) ⟨by show k + 1 ≤ 601024; omega, by show n + 6 ≤ 7293034; omega⟩ ?_
                                                                                    refine zx_aload_n (i := 1) (zd me_L_law_19 5 rfl) rfl 1 rfl ?_
                                                                                    refine zx_callVI0 (zd me_L_law_19 6 rfl) (mc_X11_sentence (zl C) h1 M) lk_L_186 ⟨(Nat.le_of_ble_eq_true rfl), (Nat.le_of_ble_eq_true rfl)⟩ (Nat.le_of_ble_eq_true rfl) (zi11_c h1) rfl (fun r332 M331 => ?_)
                                                                                    refine zx_aload_n (i := 2) (zd me_L_law_19 7 rfl) rfl 2 rfl ?_
                                                                                    refine zx_callVI0 (zd me_L_law_19 8 rfl) (mc_X12_sentence (zl C) h2 M331) lk_L_189 ⟨(Nat.le_of_ble_eq_true rfl), (Nat.le_of_ble_eq_true rfl)⟩ (Nat.le_of_ble_eq_true rfl) (zi12_c h2) rfl (fun r334 M333 => ?_)
                                                                                    refine zx_icmp_eq (tgt := 1432) (zd me_L_law_19 9 rfl) (by decide) (fun c335 => ?_) (fun c335 => ?_)
                                                                                    · refine zx_iinc (v := 6) (ls' := [(4, .int (i4 + 6)), (0, .ref (zBIG + 60)), (1, .ref a1), (2, .ref a2), (3, .ref a3)]) (zd me_L_law_21 0 rfl) (Nat.le_of_ble_eq_true rfl) 4 rfl (by decide) rfl ?_
                                                                                      refine zx_goto (tgt := 23) (zd me_L_law_21 1 rfl) (by decide) ?_
                                                                                      refine zx_loc [1, 2, 3, 4, 0] rfl ?_
                                                                                      exact ih (k + 1) (n + 6) (by omega) (by omega) (i4 + 6) M333
                                                                                    · refine zx_iconst (v := 0) (zd me_L_law_19 10 rfl) (by decide) ?_
                                                                                      exact zx_none
                                                                                  · refine zx_ite (fun c336 => ?_) (fun c336 => ?_)
                                                                                    · refine zx_tin (off := 1292) (tgt := 1332) (zd me_L_law_0 24 rfl) (by rw [c336]; decide) (by rw [c336]; decide) (by rw [c336]; rfl) (by decide) ?_
                                                                                      refine zx_widen (k' := k + 1) (n' := n + 6) (by omega) (by omega) ⟨by show k + 1 ≤ 601024; omega, by show n + 6 ≤ 7293034; omega⟩ ?_
                                                                                      refine zx_aload_n (i := 1) (zd me_L_law_19 12 rfl) rfl 1 rfl ?_
                                                                                      refine zx_aload_n (i := 0) (zd me_L_law_19 13 rfl) rfl 0 rfl ?_
                                                                                      refine zx_iload (zd me_L_law_19 14 rfl) 4 rfl ?_
                                                                                      refine zx_iconst (v := 1) (zd me_L_law_19 15 rfl) (by decide) ?_
                                                                                      refine zx_iadd (zd me_L_law_19 16 rfl) ?_
                                                                                      refine zx_sld hs (zd me_L_law_19 17 rfl) (fun j337 => ?_)
                                                                                      refine zx_callVI1 (zd me_L_law_19 18 rfl) (mc_X11_said (zl C) h1 (xs j337) M) lk_L_190 ⟨(Nat.le_of_ble_eq_true rfl), (Nat.le_of_ble_eq_true rfl)⟩ (Nat.le_of_ble_eq_true rfl) (zi11_c h1) rfl (fun r339 M338 => ?_)
                                                                                      refine zx_aload_n (i := 2) (zd me_L_law_19 19 rfl) rfl 2 rfl ?_
                                                                                      refine zx_aload_n (i := 0) (zd me_L_law_19 20 rfl) rfl 0 rfl ?_
                                                                                      refine zx_iload (zd me_L_law_19 21 rfl) 4 rfl ?_
                                                                                      refine zx_iconst (v := 1) (zd me_L_law_19 22 rfl) (by decide) ?_
                                                                                      refine zx_iadd (zd me_L_law_19 23 rfl) ?_
                                                                                      refine zx_sld hs (zd me_L_law_19 24 rfl) (fun j340 => ?_)
                                                                                      refine zx_callVI1 (zd me_L_law_19 25 rfl) (mc_X12_said (zl C) h2 (xs j340) M338) lk_L_193 ⟨(Nat.le_of_ble_eq_true rfl), (Nat.le_of_ble_eq_true rfl)⟩ (Nat.le_of_ble_eq_true rfl) (zi12_c h2) rfl (fun r342 M341 => ?_)
                                                                                      refine zx_icmp_eq (tgt := 1432) (zd me_L_law_19 26 rfl) (by decide) (fun c343 => ?_) (fun c343 => ?_)
                                                                                      · refine zx_iinc (v := 6) (ls' := [(4, .int (i4 + 6)), (0, .ref (zBIG + 60)), (1, .ref a1), (2, .ref a2), (3, .ref a3)]) (zd me_L_law_21 0 rfl) (Nat.le_of_ble_eq_true rfl) 4 rfl (by decide) rfl ?_
                                                                                        refine zx_goto (tgt := 23) (zd me_L_law_21 1 rfl) (by decide) ?_
                                                                                        refine zx_loc [1, 2, 3, 4, 0] rfl ?_
                                                                                        exact ih (k + 1) (n + 6) (by omega) (by omega) (i4 + 6) M341
                                                                                      · refine zx_iconst (v := 0) (zd me_L_law_19 27 rfl) (by decide) ?_
                                                                                        exact zx_none
                                                                                    · refine zx_ite (fun c344 => ?_) (fun c344 => ?_)
                                                                                      · refine zx_tin (off := 1317) (tgt := 1357) (zd me_L_law_0 24 rfl) (by rw [c344]; decide) (by rw [c344]; decide) (by rw [c344]; rfl) (by decide) ?_
                                                                                        refine zx_widen (k' := k + 1) (n' := n + 6) (by omega) (by omega) ⟨by show k + 1 ≤ 601024; omega, by show n + 6 ≤ 7293034; omega⟩ ?_
                                                                                        refine zx_aload_n (i := 1) (zd me_L_law_19 29 rfl) rfl 1 rfl ?_
                                                                                        refine zx_aload_n (i := 0) (zd me_L_law_19 30 rfl) rfl 0 rfl ?_
                                                                                        refine zx_iload (zd me_L_law_19 31 rfl) 4 rfl ?_
                                                                                        refine zx_iconst (v := 1) (zd me_L_law_19 32 rfl) (by decide) ?_
                                                                                        refine zx_iadd (zd me_L_law_19 33 rfl) ?_
                                                                                        refine zx_sld hs (zd me_L_law_19 34 rfl) (fun j345 => ?_)
                                                                                        refine zx_callVI1 (zd me_L_law_19 35 rfl) (mc_X11_image (zl C) h1 (xs j345) M) lk_L_194 ⟨(Nat.le_of_ble_eq_true rfl), (Nat.le_of_ble_eq_true rfl)⟩ (Nat.le_of_ble_eq_true rfl) (zi11_c h1) rfl (fun r347 M346 => ?_)
                                                                                        refine zx_aload_n (i := 2) (zd me_L_law_19 36 rfl) rfl 2 rfl ?_
                                                                                        refine zx_aload_n (i := 0) (zd me_L_law_19 37 rfl) rfl 0 rfl ?_
                                                                                        refine zx_iload (zd me_L_law_19 38 rfl) 4 rfl ?_
                                                                                        refine zx_iconst (v := 1) (zd me_L_law_19 39 rfl) (by decide) ?_
                                                                                        refine zx_iadd (zd me_L_law_20 0 rfl) ?_
                                                                                        refine zx_sld hs (zd me_L_law_20 1 rfl) (fun j348 => ?_)
                                                                                        refine zx_callVI1 (zd me_L_law_20 2 rfl) (mc_X12_image (zl C) h2 (xs j348) M346) lk_L_197 ⟨(Nat.le_of_ble_eq_true rfl), (Nat.le_of_ble_eq_true rfl)⟩ (Nat.le_of_ble_eq_true rfl) (zi12_c h2) rfl (fun r350 M349 => ?_)
                                                                                        refine zx_icmp_eq (tgt := 1432) (zd me_L_law_20 3 rfl) (by decide) (fun c351 => ?_) (fun c351 => ?_)
                                                                                        · refine zx_iinc (v := 6) (ls' := [(4, .int (i4 + 6)), (0, .ref (zBIG + 60)), (1, .ref a1), (2, .ref a2), (3, .ref a3)]) (zd me_L_law_21 0 rfl) (Nat.le_of_ble_eq_true rfl) 4 rfl (by decide) rfl ?_
                                                                                          refine zx_goto (tgt := 23) (zd me_L_law_21 1 rfl) (by decide) ?_
                                                                                          refine zx_loc [1, 2, 3, 4, 0] rfl ?_
                                                                                          exact ih (k + 1) (n + 6) (by omega) (by omega) (i4 + 6) M349
                                                                                        · refine zx_iconst (v := 0) (zd me_L_law_20 4 rfl) (by decide) ?_
                                                                                          exact zx_none
                                                                                      · refine zx_ite (fun c352 => ?_) (fun c352 => ?_)
                                                                                        · refine zx_tin (off := 1342) (tgt := 1382) (zd me_L_law_0 24 rfl) (by rw [c352]; decide) (by rw [c352]; decide) (by rw [c352]; rfl) (by decide) ?_
                                                                                          refine zx_widen (k' := k + 1) (n' := n + 6) (by omega) (by omega) ⟨by show k + 1 ≤ 601024; omega, by show n + 6 ≤ 7293034; omega⟩ ?_
                                                                                          refine zx_aload_n (i := 1) (zd me_L_law_20 6 rfl) rfl 1 rfl ?_
                                                                                          refine zx_aload_n (i := 0) (zd me_L_law_20 7 rfl) rfl 0 rfl ?_
                                                                                          refine zx_iload (zd me_L_law_20 8 rfl) 4 rfl ?_
                                                                                          refine zx_iconst (v := 1) (zd me_L_law_20 9 rfl) (by decide) ?_
                                                                                          refine zx_iadd (zd me_L_law_20 10 rfl) ?_
                                                                                          refine zx_sld hs (zd me_L_law_20 11 rfl) (fun j353 => ?_)
                                                                                          refine zx_callVI1 (zd me_L_law_20 12 rfl) (mc_X11_restore (zl C) h1 (xs j353) M) lk_L_198 ⟨(Nat.le_of_ble_eq_true rfl), (Nat.le_of_ble_eq_true rfl)⟩ (Nat.le_of_ble_eq_true rfl) (zi11_c h1) rfl (fun r355 M354 => ?_)
                                                                                          refine zx_aload_n (i := 2) (zd me_L_law_20 13 rfl) rfl 2 rfl ?_
                                                                                          refine zx_aload_n (i := 0) (zd me_L_law_20 14 rfl) rfl 0 rfl ?_
                                                                                          refine zx_iload (zd me_L_law_20 15 rfl) 4 rfl ?_
                                                                                          refine zx_iconst (v := 1) (zd me_L_law_20 16 rfl) (by decide) ?_
                                                                                          refine zx_iadd (zd me_L_law_20 17 rfl) ?_
                                                                                          refine zx_sld hs (zd me_L_law_20 18 rfl) (fun j356 => ?_)
                                                                                          refine zx_callVI1 (zd me_L_law_20 19 rfl) (mc_X12_restore (zl C) h2 (xs j356) M354) lk_L_201 ⟨(Nat.le_of_ble_eq_true rfl), (Nat.le_of_ble_eq_true rfl)⟩ (Nat.le_of_ble_eq_true rfl) (zi12_c h2) rfl (fun r358 M357 => ?_)
                                                                                          refine zx_icmp_eq (tgt := 1432) (zd me_L_law_20 20 rfl) (by decide) (fun c359 => ?_) (fun c359 => ?_)
                                                                                          · refine zx_iinc (v := 6) (ls' := [(4, .int (i4 + 6)), (0, .ref (zBIG + 60)), (1, .ref a1), (2, .ref a2), (3, .ref a3)]) (zd me_L_law_21 0 rfl) (Nat.le_of_ble_eq_true rfl) 4 rfl (by decide) rfl ?_
                                                                                            refine zx_goto (tgt := 23) (zd me_L_law_21 1 rfl) (by decide) ?_
                                                                                            refine zx_loc [1, 2, 3, 4, 0] rfl ?_
                                                                                            exact ih (k + 1) (n + 6) (by omega) (by omega) (i4 + 6) M357
                                                                                          · refine zx_iconst (v := 0) (zd me_L_law_20 21 rfl) (by decide) ?_
                                                                                            exact zx_none
                                                                                        · refine zx_ite (fun c360 => ?_) (fun c360 => ?_)
                                                                                          · refine zx_tin (off := 1367) (tgt := 1407) (zd me_L_law_0 24 rfl) (by rw [c360]; decide) (by rw [c360]; decide) (by rw [c360]; rfl) (by decide) ?_
                                                                                            refine zx_widen (k' := k + 1) (n' := n + 6) (by omega) (by omega) ⟨by show k + 1 ≤ 601024; omega, by show n + 6 ≤ 7293034; omega⟩ ?_
                                                                                            refine zx_aload_n (i := 1) (zd me_L_law_20 23 rfl) rfl 1 rfl ?_
                                                                                            refine zx_aload_n (i := 0) (zd me_L_law_20 24 rfl) rfl 0 rfl ?_
                                                                                            refine zx_iload (zd me_L_law_20 25 rfl) 4 rfl ?_
                                                                                            refine zx_iconst (v := 1) (zd me_L_law_20 26 rfl) (by decide) ?_
                                                                                            refine zx_iadd (zd me_L_law_20 27 rfl) ?_
                                                                                            refine zx_sld hs (zd me_L_law_20 28 rfl) (fun j361 => ?_)
                                                                                            refine zx_callVI1 (zd me_L_law_20 29 rfl) (mc_X11_count (zl C) h1 (xs j361) M) lk_L_202 ⟨(Nat.le_of_ble_eq_true rfl), (Nat.le_of_ble_eq_true rfl)⟩ (Nat.le_of_ble_eq_true rfl) (zi11_c h1) rfl (fun r363 M362 => ?_)
                                                                                            refine zx_aload_n (i := 2) (zd me_L_law_20 30 rfl) rfl 2 rfl ?_
                                                                                            refine zx_aload_n (i := 0) (zd me_L_law_20 31 rfl) rfl 0 rfl ?_
                                                                                            refine zx_iload (zd me_L_law_20 32 rfl) 4 rfl ?_
                                                                                            refine zx_iconst (v := 1) (zd me_L_law_20 33 rfl) (by decide) ?_
                                                                                            refine zx_iadd (zd me_L_law_20 34 rfl) ?_
                                                                                            refine zx_sld hs (zd me_L_law_20 35 rfl) (fun j364 => ?_)
                                                                                            refine zx_callVI1 (zd me_L_law_20 36 rfl) (mc_X12_count (zl C) h2 (xs j364) M362) lk_L_205 ⟨(Nat.le_of_ble_eq_true rfl), (Nat.le_of_ble_eq_true rfl)⟩ (Nat.le_of_ble_eq_true rfl) (zi12_c h2) rfl (fun r366 M365 => ?_)
                                                                                            refine zx_icmp_eq (tgt := 1432) (zd me_L_law_20 37 rfl) (by decide) (fun c367 => ?_) (fun c367 => ?_)
                                                                                            · refine zx_iinc (v := 6) (ls' := [(4, .int (i4 + 6)), (0, .ref (zBIG + 60)), (1, .ref a1), (2, .ref a2), (3, .ref a3)]) (zd me_L_law_21 0 rfl) (Nat.le_of_ble_eq_true rfl) 4 rfl (by decide) rfl ?_
                                                                                              refine zx_goto (tgt := 23) (zd me_L_law_21 1 rfl) (by decide) ?_
                                                                                              refine zx_loc [1, 2, 3, 4, 0] rfl ?_
                                                                                              exact ih (k + 1) (n + 6) (by omega) (by omega) (i4 + 6) M365
                                                                                            · refine zx_iconst (v := 0) (zd me_L_law_20 38 rfl) (by decide) ?_
                                                                                              exact zx_none
                                                                                          · refine zx_tout (tgt := 1432) (zd me_L_law_0 24 rfl) (by have e0 := lv_neT c3 (a := 0) (by decide); have e1 := lv_neT c19 (a := 1) (by decide); have e2 := lv_neT c27 (a := 2) (by decide); have e3 := lv_neT c33 (a := 3) (by decide); have e4 := lv_neT c39 (a := 4) (by decide); have e5 := lv_neT c49 (a := 5) (by decide); have e6 := lv_neT c59 (a := 6) (by decide); have e7 := lv_neT c74 (a := 7) (by decide); have e8 := lv_neT c82 (a := 8) (by decide); have e9 := lv_neT c90 (a := 9) (by decide); have e10 := lv_neT c98 (a := 10) (by decide); have e11 := lv_neT c106 (a := 11) (by decide); have e12 := lv_neT c114 (a := 12) (by decide); have e13 := lv_neT c122 (a := 13) (by decide); have e14 := lv_neT c128 (a := 14) (by decide); have e15 := lv_neT c136 (a := 15) (by decide); have e16 := lv_neT c144 (a := 16) (by decide); have e17 := lv_neT c150 (a := 17) (by decide); have e18 := lv_neT c158 (a := 18) (by decide); have e19 := lv_neT c166 (a := 19) (by decide); have e20 := lv_neT c172 (a := 20) (by decide); have e21 := lv_neT c178 (a := 21) (by decide); have e22 := lv_neT c184 (a := 22) (by decide); have e23 := lv_neT c192 (a := 23) (by decide); have e24 := lv_neT c200 (a := 24) (by decide); have e25 := lv_neT c210 (a := 25) (by decide); have e26 := lv_neT c216 (a := 26) (by decide); have e27 := lv_neT c224 (a := 27) (by decide); have e28 := lv_neT c234 (a := 28) (by decide); have e29 := lv_neT c242 (a := 29) (by decide); have e30 := lv_neT c257 (a := 30) (by decide); have e31 := lv_neT c270 (a := 31) (by decide); have e32 := lv_neT c276 (a := 32) (by decide); have e33 := lv_neT c284 (a := 33) (by decide); have e34 := lv_neT c292 (a := 34) (by decide); have e35 := lv_neT c302 (a := 35) (by decide); have e36 := lv_neT c314 (a := 36) (by decide); have e37 := lv_neT c322 (a := 37) (by decide); have e38 := lv_neT c330 (a := 38) (by decide); have e39 := lv_neT c336 (a := 39) (by decide); have e40 := lv_neT c344 (a := 40) (by decide); have e41 := lv_neT c352 (a := 41) (by decide); have e42 := lv_neT c360 (a := 42) (by decide); omega) (by decide) ?_
                                                                                            refine zx_widen (k' := k + 1) (n' := n + 6) (by omega) (by omega) ⟨by show k + 1 ≤ 601024; omega, by show n + 6 ≤ 7293034; omega⟩ ?_
                                                                                            refine zx_iinc (v := 6) (ls' := [(4, .int (i4 + 6)), (0, .ref (zBIG + 60)), (1, .ref a1), (2, .ref a2), (3, .ref a3)]) (zd me_L_law_21 0 rfl) (Nat.le_of_ble_eq_true rfl) 4 rfl (by decide) rfl ?_
                                                                                            refine zx_goto (tgt := 23) (zd me_L_law_21 1 rfl) (by decide) ?_
                                                                                            refine zx_loc [1, 2, 3, 4, 0] rfl ?_
                                                                                            exact ih (k + 1) (n + 6) (by omega) (by omega) (i4 + 6) M
