/** Section 3 of the document: papers, bills, pledges, deposits; and promises 19 to 27. */
final class EdgePapers {
    private EdgePapers() {
    }

    static void all() {
        papers();
        kinds();
        fullTable();
        numbersUsedAgain();
        states();
        bills();
        sales();
        banksThatBuy();
        pledges();
        pledgesThatMayNotBe();
        deposits();
        promises();
    }

    private static void papers() {
        EdgeTest.edge("PAPERS have numbers 0 .. 59: a new one takes the least that is free.", PaperTests.FOUR + """
                gold(1, 1000) 1000
                of(0, 0) -3
                59 x promise(1, 2, 5, 50) 0..
                of(58, 0) 0
                of(59, 0) -3
                deposit(1, 3, 5) 59
                of(59, 0) 2
                of(60, 0) -3
                of(-1, 0) -3
                count(4) 60
                promise(1, 2, 5, 5) -8
                bill(1, 2, 5, 5) -8
                deposit(1, 3, 5) -8
                ask(59) 1
                count(4) 59
                of(59, 0) -3
                deposit(1, 3, 6) 59
                promise(1, 2, 5, 5) -8
                """);
        EdgeTest.edge("One that is PAID is free.", PaperTests.FOUR + """
                gold(1, 30) 30
                promise(1, 2, 5, 3) 0
                promise(1, 2, 6, 2) 1
                promise(1, 2, 7, 1) 2
                promise(1, 2, 8, 2) 3
                run(2) 0
                of(2, 0) -3
                of(1, 0) 0
                promise(1, 2, 1, 9) 2
                run(1) 0
                count(4) 2
                bill(1, 2, 1, 9) 1           # the least that is free
                bill(1, 2, 1, 9) 3
                bill(1, 2, 1, 9) 4
                run(1) 0
                deposit(2, 3, 1) 0
                """);
        EdgeTest.edge("Each has a SUM (1 .. 9999), a DEBTOR, a HOLDER, a DUE (not a DEPOSIT).", PaperTests.FOUR + """
                2 x gold(1, 10000) ?
                promise(1, 2, 0, 5) -7
                promise(1, 2, -1, 5) -7
                promise(1, 2, 10000, 5) -7
                promise(1, 2, 1, 5) 0
                promise(1, 2, 9999, 5) 1
                bill(1, 2, 0, 5) -7
                bill(1, 2, 10000, 5) -7
                bill(1, 2, 1, 5) 2
                bill(1, 2, 9999, 5) 3
                deposit(1, 3, 0) -7
                deposit(1, 3, 10000) -7
                deposit(1, 3, 1) 4
                deposit(1, 3, 9999) 5
                of(1, 1) 9999
                of(3, 1) 9999
                of(5, 1) 9999
                of(5, 2) 3
                of(5, 3) 1
                of(5, 4) -1
                of(1, 4) 5
                of(3, 4) 5
                """);
    }

    private static void kinds() {
        EdgeTest.edge("KINDS: 0 PROMISE, 1 BILL, 2 DEPOSIT, 3 PLEDGE.", PaperTests.FOUR + """
                gold(0, 900) 900
                gold(1, 5) 5
                tape lend 100
                text(0, 99) 0
                promise(1, 2, 5, 9) 0
                bill(1, 2, 20, 9) 1
                deposit(1, 3, 5) 2
                help(1, 5) 3
                of(0, 0) 0
                of(1, 0) 1
                of(2, 0) 2
                of(3, 0) 3
                of(0, 4) 9
                of(1, 4) 9
                of(2, 4) -1
                of(3, 4) 5
                of(0, 6) 0
                of(1, 6) 2
                of(2, 6) 0
                of(3, 6) 0
                of(0, 8) -1
                of(1, 8) -1
                of(2, 8) -1
                of(3, 8) 1
                look(1, 8) 1                 # the deposit
                look(1, 9) 2                 # the promise, the bill
                look(2, 8) 1
                look(2, 9) 1                 # the pledge
                look(0, 8) 2
                look(0, 9) 0
                look(3, 8) 0
                look(3, 9) 1
                look(4, 8) 0
                look(4, 9) 0
                """);
    }

    private static void fullTable() {
        EdgeTest.edge("PAPERS have numbers 0 .. 59", PaperTests.FOUR + """
                gold(0, 900) 900
                gold(1, 30) 30
                trade(1, 2, 100, 9) 0
                bold(1, 0) 9000
                30 x promise(2, 4, 1, 3) 0..
                deposit(1, 3, 20) 30
                deposit(1, 3, 10) 31
                26 x bill(2, 4, 1, 9) 32..
                mind(4, 2, 0) 0
                bill(4, 2, 9, 20) 58
                promise(4, 1, 9, 30) 59
                count(4) 60
                promise(1, 2, 1, 1) -8
                look(2, 8) 1
                look(2, 9) 56
                look(4, 8) 56
                look(4, 9) 2
                look(1, 8) 3
                run(1) 0                     # no bill by trade, and 4 sells two
                count(4) 60
                look(4, 8) 54
                look(0, 8) 2
                run(2) 0
                run(1) 1                     # 2 is down, and 1 asks for what it has
                look(4, 8) 54
                count(4) 58
                of(30, 0) -3
                of(31, 0) -3
                of(59, 5) 0
                look(1, 7) 30
                assets(2) 9                  # of 30 promises, 26 bills
                gets(29) 0
                gets(57) 0
                deposit(1, 3, 2) 30
                deposit(1, 3, 2) 31
                run(1) 0                     # it still hears of one failure: both are asked
                of(31, 0) -3
                run(5) 0                     # all the bills are due
                of(57, 5) 2
                of(32, 5) 1                  # of THE BANK: 4 is asked
                of(32, 9) 10
                """);
        EdgeTest.edge("PAPERS have numbers 0 .. 59", PaperTests.FOUR + """
                gold(3, 9) 9
                59 x bill(1, 2, 1, 60) 0..
                bill(1, 2, 2, 59) 59
                mind(2, 2, 3) 0
                run(1) 0
                of(59, 3) 3                  # the last number is due first
                of(0, 3) 2
                mind(2, 5, 3) 2
                run(1) 0
                of(0, 3) 3
                of(2, 3) 3
                of(3, 3) 2
                bill(1, 2, 1, 60) -8
                """);
    }

    private static void numbersUsedAgain() {
        EdgeTest.edge("a new one takes the least that is free.", PaperTests.FOUR + """
                gold(0, 900) 900
                gold(1, 500) 500
                rate(0) 5
                tape lend 100
                text(0, 99) 0
                tell(0, 0, 200) -1
                trade(1, 2, 40, 1) 0
                run(1) 0
                of(0, 10) 1
                bill(1, 2, 20, 9) 1
                help(1, 1) 2
                of(2, 8) 1
                sell(0) -7                   # due on the open day
                look(1, 2) 500
                goesOn(0, 0) 1
                run(2) 0                     # the first bill and the pledge are paid
                look(1, 2) 540
                bill(1, 2, 30, 3) 0
                bill(2, 1, 30, 3) 2
                of(0, 10) 0
                of(0, 8) -1
                of(2, 8) -1
                of(2, 0) 1
                of(2, 7) 0
                of(2, 10) 0
                name(2, 0) 2
                name(2, 1) 1
                sell(0) 30
                run(4) 0
                sheet(0, 2) 0                # it was paid on day 6: a free one counts nowhere
                look(1, 7) 540               # no proceeds: 30 go, and 30 come
                """);
    }

    private static void states() {
        EdgeTest.edge("STATES: 0 LIVE, 1 PROTESTED, 2 DEAD.", PaperTests.FOUR + """
                gold(0, 100) 100
                bill(1, 2, 30, 1) 0
                bill(1, 2, 20, 1) 1
                promise(1, 2, 7, 9) 2
                sell(0) 30
                of(0, 5) 0
                run(1) 0
                of(0, 5) 0
                run(1) 1
                of(0, 5) 1                   # the drawer's name is left
                of(1, 5) 2                   # none is left: the drawer holds it
                of(2, 5) 2
                run(1) 0
                of(0, 5) 2                   # paid back, and no name is left
                of(0, 3) 2
                count(4) 3                   # those that are dead aren't free
                """);
    }

    private static void bills() {
        EdgeTest.edge("A BILL has NAMES: its DEBTOR, who drew it, and all who sold it, in order; 6 at most.",
                PaperTests.FOUR + """
                gold(0, 500) 500
                gold(3, 100) 100
                mind(2, 0, 3) 0
                bill(1, 2, 60, 20) 0
                of(0, 6) 2
                name(0, -1) -3
                name(0, 0) 1
                name(0, 1) 2
                name(0, 2) -3
                sell(0) 60
                of(0, 6) 2                   # who drew it is the last of them already
                sell(0) 60
                of(0, 6) 3
                name(0, 2) 3
                name(0, 3) -3
                """);
        EdgeTest.edge("PRICE of a BILL at a RATE r: SUM less SUM r (DUE less the open DAY) / 36000.", PaperTests.FOUR
                + """
                bill(1, 2, 1199, 6) 0
                bill(1, 2, 1200, 6) 1
                bill(1, 2, 1201, 6) 2
                bill(1, 2, 9999, 60) 3
                bill(1, 2, 1, 60) 4
                bill(1, 2, 6857, 21) 5
                price(5, 1) 6854             # 143997 / 36000
                price(0, 5) 1199             # 35970 / 36000
                price(1, 5) 1199             # 36000 / 36000
                price(2, 5) 1200
                price(1, 4) 1200
                price(1, 10) 1198
                price(1, 9) 1199
                price(1, 0) 1200
                price(3, 30) 9500            # 499.95
                price(3, 20) 9666
                price(4, 30) 1
                run(1) 0
                price(1, 5) 1200             # five days are left
                price(1, 6) 1199
                run(5) 0
                price(1, 30) 1200            # due on the open day
                price(3, 30) 9550
                """);
    }

    private static void sales() {
        EdgeTest.edge("It MAY be, if it is LIVE, DUE behind the open DAY, not in PLEDGE, with 5 NAMES at most.",
                PaperTests.FOUR + """
                gold(0, 500) 500
                gold(1, 500) 500
                bill(1, 2, 50, 2) 0
                bill(1, 2, 60, 1) 1
                bill(1, 2, 70, 3) 2
                promise(3, 1, 5, 1) 3
                bill(3, 2, 80, 1) 4
                sell(2) 70
                run(1) 0
                sell(1) -7                   # due on the open day
                sell(0) 50                   # one day ahead of it
                run(1) 1
                of(4, 5) 2
                sell(4) -7                   # not live
                sell(1) -3
                status(-7) 2
                """);
        EdgeTest.edge("(if it isn't the last of them already), and is the HOLDER.", PaperTests.FOUR + """
                gold(0, 900) 900
                gold(3, 100) 100
                bill(1, 3, 60, 20) 0         # a bank draws: its name is there
                sell(0) 60
                of(0, 6) 2
                of(0, 3) 0
                mind(2, 0, 3) 0
                bill(3, 2, 50, 20) 1         # a bank buys what it owes, and sells it
                sell(1) 50
                of(1, 3) 3
                of(1, 6) 2
                sell(1) 50
                of(1, 6) 3
                name(1, 0) 3
                name(1, 2) 3
                """);
        EdgeTest.edge("THE BANK BUYS at RATE, if the LAW buy says so (not 0), and it CAN", PaperTests.FOUR + """
                gold(0, 100) 100
                rate(20) 5
                bill(1, 2, 91, 60) 0         # 91 * 20 * 60 / 36000 is 3
                bill(1, 2, 15, 9) 1
                bill(1, 2, 14, 9) 2
                bill(1, 2, 9, 9) 3
                bill(1, 2, 9, 9) 4
                tape buy 0-1
                text(0, 9) 0
                tape buy 0
                text(1, 2) 1
                sell(0) 88                   # what isn't 0: it buys
                look(0, 2) 92
                look(2, 3) 8
                sell(1) 15                   # one note more: OUT is 90 of 92
                look(0, 2) 87
                sell(2) 0                    # OUT would be 100
                count(12) 1
                of(2, 3) 2
                sell(3) 9                    # no note, 9 in gold
                run(1) 0
                sell(4) 0                    # buy says 0
                count(12) 2
                run(1) 0
                sell(4) 9
                count(12) 2
                """);
    }

    private static void banksThatBuy() {
        EdgeTest.edge("a BANK at RATE and 1, if it is UP, and its COIN less the PRICE is MIN at least, and it CAN.",
                PaperTests.FOUR + """
                mind(2, 0, 3) 0
                mind(3, 40, 0) 0
                rate(4) 5
                bill(1, 2, 120, 60) 0        # 120 * 5 * 60 / 36000 is 1
                gold(3, 158) 158
                sell(0) 0                    # 39 would be left
                of(0, 3) 2
                count(12) 0
                gold(3, 1) 159
                sell(0) 119                  # 40 are
                of(0, 3) 3
                look(3, 2) 40
                bill(1, 2, 1, 5) 1
                sell(1) 0
                mind(3, 39, 0) 40
                sell(1) 1
                count(12) 0
                """);
        EdgeTest.edge("THE BANK BUYS at RATE, if the LAW buy says so (not 0), and it CAN; a BANK at RATE and 1",
                PaperTests.FOUR + """
                gold(0, 9000) 9000
                gold(3, 9000) 9000
                rate(4) 5
                bill(1, 2, 3600, 60) 0
                bill(1, 2, 2400, 60) 1
                price(0, 5) 3570
                mind(2, 0, 3) 0
                sell(0) 3570
                mind(2, 0, 0) 0
                sell(1) 2384                 # at 4
                rate(20) 4
                bill(1, 2, 3600, 60) 2
                mind(2, 0, 3) 0
                sell(2) 3474                 # at 21
                """);
        EdgeTest.edge("and its COIN less the PRICE is MIN at least, and it CAN.", PaperTests.FOUR + """
                gold(0, 900) 900
                give(0, 3, 100) 900
                rate(0) 5
                mind(2, 0, 3) 0
                bill(1, 2, 55, 5) 0
                bill(1, 2, 100, 5) 1
                bill(1, 2, 5, 5) 2
                sell(0) 0                    # 5 in gold it hasn't
                sell(2) 0
                gold(3, 4) 4
                sell(0) 0
                gold(3, 1) 5
                sell(0) 55
                look(3, 3) 5
                look(3, 2) 0
                sell(1) 0                    # 50 are left
                gold(3, 50) 50
                sell(1) 100                  # all it has: MIN is 0
                look(3, 7) 0
                """);
        EdgeTest.edge("a BANK at RATE and 1, if it is UP", PaperTests.FOUR + """
                gold(1, 20) 20
                gold(3, 90) 90
                mind(2, 0, 3) 0
                bill(1, 2, 9, 9) 0
                bill(1, 2, 8, 9) 1
                promise(3, 4, 91, 1) 2
                sell(0) 9
                gold(3, 9) 90
                run(1) 0
                sell(1) 8                    # still up
                bill(1, 2, 8, 9) 3
                run(1) 1
                sell(3) 0                    # down
                count(12) 0
                of(3, 3) 2
                """);
        EdgeTest.edge("(Who is the BILL's HOLDER never buys it.)", PaperTests.FOUR + """
                gold(0, 500) 500
                gold(3, 50) 50
                bill(1, 3, 40, 20) 0
                mind(3, 5, 3) -5
                sell(0) 40                   # a bank sells to THE BANK alone
                sell(0) -5
                bill(1, 0, 40, 20) -5
                """);
    }

    private static void pledges() {
        EdgeTest.edge("THE BANK lends a HOUSE SUM times what the LAW lend SAYS for one of its BILLS / 100"
                + " (SUM being the BILL's), 1 at least, for 1 .. 60 DAYS, less than are left to the BILL's DUE",
                PaperTests.FOUR + """
                gold(0, 900) 900
                rate(0) 5
                bill(1, 2, 1, 9) 0
                bill(1, 2, 2, 9) 1
                bill(1, 2, 101, 9) 2
                bill(1, 2, 199, 60) 3
                bill(1, 2, 30, 2) 4
                bill(1, 2, 31, 1) 5
                tape lend 50
                text(0, 9) 0
                help(0, 1) -7                # 1 * 50 / 100 is 0
                help(1, 1) 6                 # 2 * 50 / 100 is 1
                of(6, 1) 1
                help(2, 9) -7                # as many as are left
                help(2, 8) 7
                of(7, 1) 50                  # 50.5
                of(7, 4) 8
                help(3, 0) -7
                help(3, -1) -7
                help(3, 61) -7
                help(3, 60) -7               # sixty are left
                help(3, 59) 8
                of(8, 1) 99
                of(8, 4) 59
                help(4, 2) -7
                help(4, 1) 9
                help(5, 1) -7
                count(4) 10
                """);
        EdgeTest.edge("the PLEDGE's SUM is that, and its interest (it times RATE times DAYS / 36000) more;"
                + " THE BANK GIVES what is lent.", PaperTests.FOUR + """
                gold(0, 9000) 9000
                tape lend 100
                text(0, 99) 0
                bill(1, 2, 1199, 60) 0
                bill(1, 2, 1200, 60) 1
                bill(1, 2, 601, 60) 2
                help(0, 6) 3
                of(3, 1) 1199                # 35970 / 36000
                look(2, 3) 119
                look(2, 2) 9
                help(1, 6) 4
                of(4, 1) 1201                # 36000 / 36000
                look(2, 3) 239               # what is lent, not the interest
                look(2, 2) 9
                rate(20) 5
                help(2, 59) 5
                of(5, 1) 620                 # 19.7
                """);
        EdgeTest.edge("and its interest (it times RATE times DAYS / 36000) more", PaperTests.FOUR + """
                gold(0, 900) 900
                tape lend 100
                text(0, 99) 0
                rate(7) 5
                bill(1, 2, 559, 60) 0
                help(0, 46) 1
                of(1, 1) 563                 # 559, and 179998 / 36000
                """);
        EdgeTest.edge("The BILL (of which the HOUSE is HOLDER, LIVE, not in PLEDGE) is in PLEDGE then,"
                + " its HOLDER is THE BANK.", PaperTests.FOUR + """
                gold(0, 900) 900
                tape lend 100
                text(0, 99) 0
                bill(1, 2, 20, 9) 0
                bill(1, 2, 30, 1) 1
                of(0, 7) 0
                help(0, 2) 2
                of(0, 7) 1
                of(0, 3) 0
                of(0, 6) 2
                of(2, 7) 0
                of(2, 8) 0
                of(2, 2) 2
                of(2, 3) 0
                help(0, 2) -5                # THE BANK holds it
                sell(0) -5
                run(2) 1
                of(1, 5) 2
                help(1, 1) -7                # not live
                run(1) 0
                of(2, 0) -3                  # paid
                of(0, 7) 0
                of(0, 3) 2
                help(0, 5) 2                 # it may be in pledge anew
                """);
    }

    private static void pledgesThatMayNotBe() {
        EdgeTest.edge("BEYOND: no PAPER; KIND: no BILL, THE BANK holds it; NO: DAYS, it isn't LIVE, the HOLDER is"
                + " DOWN, too few DAYS are left to its DUE, LENT would be 0, THE BANK CAN'T; FULL.", PaperTests.FOUR
                + """
                gold(0, 59) 59
                gold(1, 100) 100
                gold(2, 50) 50
                tape lend 100
                text(0, 99) 0
                bill(1, 2, 60, 9) 0
                bill(1, 2, 59, 9) 1
                promise(1, 2, 5, 9) 2
                deposit(2, 3, 50) 3
                bill(1, 2, 9, 9) 4
                sell(4) 9
                help(5, 0) -3
                help(60, 0) -3
                help(-1, 0) -3
                help(2, 0) -5
                help(3, 0) -5
                help(4, 0) -5
                help(0, 0) -7
                help(0, 5) -7                # OUT would be 60 of 50
                help(1, 5) 5                 # 5 notes of 50, and 9
                look(0, 2) 41
                give(2, 0, 50) 18
                bill(1, 2, 21, 9) 6
                53 x promise(3, 4, 5, 60) 7..
                help(6, 5) -8
                help(6, 9) -7                # NO is ahead of FULL
                help(2, 5) -5
                help(60, 5) -3
                ask(3) 1
                help(6, 5) 3
                """);
        EdgeTest.edge("it isn't LIVE, the HOLDER is DOWN, too few DAYS are left to its DUE", PaperTests.FOUR + """
                gold(0, 900) 900
                tape lend 100
                text(0, 99) 0
                run(5) 0
                bill(1, 2, 20, 8) 0          # due on day 13
                bill(1, 4, 20, 8) 1
                help(0, 8) -7
                help(0, 7) 2
                of(2, 4) 12
                promise(4, 2, 5, 1) 3
                run(2) 1
                help(1, 2) -7                # its holder is down
                of(1, 5) 0
                bill(1, 2, 20, 3) 4          # due on day 10
                help(4, 3) -7
                help(4, 2) 5
                of(5, 4) 9
                """);
        EdgeTest.edge("(lend counts as 0 .. 100, hide as 0 at least.)", PaperTests.FOUR + """
                gold(0, 900) 900
                rate(0) 5
                tape lend sum-100
                text(0, 99) 0
                bill(1, 2, 99, 9) 0
                bill(1, 2, 100, 9) 1
                bill(1, 2, 101, 9) 2
                bill(1, 2, 199, 9) 3
                bill(1, 2, 200, 9) 4
                bill(1, 2, 201, 9) 5
                says(3, 0) -1
                help(0, 1) -7                # -1 counts as 0
                help(1, 1) -7
                help(2, 1) 6                 # 101 * 1 / 100
                of(6, 1) 1
                help(3, 1) 7                 # 199 * 99 / 100
                of(7, 1) 197
                help(4, 1) 8
                of(8, 1) 200
                says(3, 5) 101
                help(5, 1) 9                 # 101 counts as 100
                of(9, 1) 201
                """);
    }

    private static void deposits() {
        EdgeTest.edge("A DEPOSIT: a HOUSE GIVES SUM to a BANK (its DEBTOR), and is its HOLDER.", PaperTests.FOUR + """
                gold(0, 100) 100
                give(0, 1, 30) 100
                gold(1, 5) 5
                deposit(1, 3, 36) -7         # 6 in gold
                deposit(1, 3, 35) 0
                look(1, 7) 0
                look(3, 3) 3
                look(3, 2) 5
                of(0, 2) 3
                of(0, 3) 1
                deposit(3, 4, 35) 1          # a bank in another one
                of(1, 3) 3
                look(4, 7) 35
                deposit(1, 3, 1) -7
                """);
        EdgeTest.edge("It is ASKED: the DEBTOR GIVES SUM back.", PaperTests.FOUR + """
                gold(0, 100) 100
                gold(1, 45) 45
                gold(2, 1) 1
                deposit(1, 3, 45) 0
                deposit(2, 3, 1) 1
                give(3, 4, 2) 44
                ask(1) 1                     # 43 are left
                give(0, 3, 10) 100
                give(3, 4, 8) 35
                ask(0) 1                     # 45: one note, 35 in gold
                look(3, 7) 0
                look(1, 3) 1
                look(1, 2) 35
                deposit(1, 3, 45) 0
                give(3, 4, 1) 34
                ask(0) 0                     # 44 can't be 45
                look(3, 7) 44
                look(1, 7) 0
                """);
        EdgeTest.edge("A DEPOSIT is ASKED: 1 it is PAID; 0 its DEBTOR is DOWN by that."
                + " BEYOND, KIND: no DEPOSIT; NO: it isn't LIVE, the HOLDER is DOWN.", PaperTests.FOUR + """
                gold(1, 50) 50
                gold(2, 20) 20
                deposit(1, 3, 30) 0
                deposit(1, 3, 20) 1
                deposit(2, 4, 20) 2
                promise(2, 1, 1, 1) 3
                bill(1, 2, 5, 5) 4
                ask(5) -3
                ask(60) -3
                ask(-1) -3
                ask(3) -5
                ask(4) -5
                give(3, 4, 21) 29
                ask(0) 0
                look(3, 4) 0
                ask(1) -7                    # dead with the bank
                ask(0) -7
                run(2) 1
                ask(2) -7                    # the holder is down
                of(2, 5) 0
                ask(3) -5
                status(-7) 3
                """);
    }

    private static void promises() {
        EdgeTest.edge("A PROMISE of a SUM in 1 .. 60 DAYS: its number. BEYOND, KIND: one is THE BANK;"
                + " NO: SUM, DAYS, a HOUSE and itself, one is DOWN; FULL.", LandTests.ONE_DOWN + """
                house(0, 0) 3
                promise(2, 3, 5, 0) -7
                promise(2, 3, 5, -1) -7
                promise(2, 3, 5, 61) -7
                promise(2, 3, 5, 2147483647) -7
                promise(2, 3, 5, 1) 1
                of(1, 4) 3                   # the open day is 2
                promise(2, 3, 5, 60) 2
                of(2, 4) 62
                promise(2, 2, 5, 5) -7
                promise(1, 2, 5, 5) -7
                promise(2, 1, 5, 5) -7
                promise(0, 2, 0, 0) -5
                promise(2, 0, 0, 0) -5
                promise(0, 0, 5, 5) -5
                promise(0, 4, 5, 5) -3
                promise(4, 0, 5, 5) -3
                promise(-1, 2, 5, 5) -3
                promise(2, 4, 0, 0) -3
                57 x promise(3, 2, 5, 60) 3..
                promise(3, 2, 5, 60) -8
                promise(3, 2, 5, 61) -7
                promise(3, 0, 5, 60) -5
                """);
        EdgeTest.edge("A BILL, drawn and held by a HOUSE. Likewise.", LandTests.ONE_DOWN + """
                house(1, 0) 3
                bill(2, 3, 5, 0) -7
                bill(2, 3, 5, 61) -7
                bill(2, 3, 5, 1) 1
                bill(2, 3, 5, 60) 2
                of(2, 4) 62
                of(2, 3) 3
                name(2, 1) 3
                bill(2, 2, 5, 5) -7
                bill(1, 2, 5, 5) -7
                bill(2, 1, 5, 5) -7
                bill(0, 2, 0, 0) -5
                bill(2, 0, 0, 0) -5
                bill(0, 4, 5, 5) -3
                bill(4, 2, 0, 0) -3
                bill(2, -1, 5, 5) -3
                57 x bill(3, 2, 5, 60) 3..
                bill(3, 2, 5, 60) -8
                bill(3, 2, 0, 60) -7
                """);
        EdgeTest.edge("A DEPOSIT of a HOUSE in a BANK: its number. BEYOND, KIND: THE BANK as HOLDER, no BANK;"
                + " NO: SUM, a HOUSE and itself, one is DOWN, it CAN'T; FULL.", PaperTests.FOUR + """
                gold(0, 500) 500
                gold(1, 20) 20
                deposit(5, 3, 0) -3
                deposit(1, 5, 0) -3
                deposit(-1, 3, 0) -3
                deposit(0, 3, 0) -5
                deposit(0, 0, 0) -5
                deposit(1, 0, 0) -5
                deposit(1, 2, 0) -5
                deposit(3, 3, 5) -7
                deposit(1, 3, 21) -7
                deposit(1, 3, 19) 0
                58 x promise(1, 2, 5, 60) 1..
                deposit(1, 3, 1) 59
                deposit(1, 3, 1) -7          # it can't: NO is ahead of FULL
                give(0, 1, 1) 499
                deposit(1, 3, 1) -8
                look(1, 2) 1                 # nothing was given
                deposit(1, 2, 1) -5
                """);
        EdgeTest.edge("NO: SUM, a HOUSE and itself, one is DOWN, it CAN'T; FULL.", PaperTests.FOUR + """
                gold(1, 90) 90
                gold(2, 90) 90
                promise(3, 1, 5, 1) 0
                promise(2, 1, 95, 1) 1
                deposit(1, 3, 4) 2
                deposit(1, 3, 0) -7
                deposit(1, 3, -1) -7
                deposit(1, 3, 10000) -7
                deposit(1, 3, 9999) -7
                run(2) 2
                deposit(1, 3, 5) -7          # the bank is down
                deposit(2, 4, 5) -7          # the house is
                deposit(2, 3, 5) -7
                deposit(1, 4, 5) 3
                deposit(1, 4, 81) 4
                deposit(1, 4, 1) -7          # nothing is left
                look(2, 7) 90
                """);
        offers();
    }

    private static void offers() {
        EdgeTest.edge("A BILL is offered by its HOLDER to its BANKER: its PRICE; 0: refused (by THE BANK it counts as"
                + " REFUSED). BEYOND, KIND: no BILL, THE BANK holds it; NO: the HOLDER is DOWN, it MAY not be SOLD.",
                PaperTests.FOUR + """
                gold(0, 100) 100
                gold(1, 5) 5
                promise(1, 2, 1, 9) 0
                deposit(1, 3, 1) 1
                bill(1, 2, 20, 9) 2
                bill(1, 4, 30, 9) 3
                promise(4, 2, 1, 1) 4
                sell(5) -3
                sell(60) -3
                sell(-1) -3
                sell(0) -5
                sell(1) -5
                sell(2) 20
                sell(2) -5
                run(2) 1
                sell(3) -7                   # its holder is down
                status(-7) 1
                count(12) 0
                """);
        EdgeTest.edge("KIND (what = 0), SUM (1), DEBTOR (2), HOLDER (3), DUE (4; NONE of DEPOSITS), STATE (5), how many"
                + " NAMES (6; 0 of others), whether it is in PLEDGE (7), the BILL (8; of a PLEDGE; NONE of others), the"
                + " DAY in which a name is ASKED (9; PROTESTED ones; NONE), whether it is by TRADE (10). BEYOND (free"
                + " ones, too), NO.", PaperTests.FOUR + """
                gold(1, 5) 5
                promise(1, 2, 5, 1) 0
                of(0, 0) 0
                of(0, 10) 0
                of(0, 11) -7
                of(0, -1) -7
                of(1, 0) -3
                of(1, 11) -3
                of(59, 0) -3
                of(60, 0) -3
                of(-1, 0) -3
                of(2147483647, 0) -3
                run(2) 0
                of(0, 0) -3                  # paid, so free
                of(0, 11) -3
                """);
        EdgeTest.edge("Name i, from 0, of a BILL. BEYOND (PAPER), KIND, BEYOND (i).", PaperTests.FOUR + """
                bill(1, 2, 5, 1) 0
                promise(1, 2, 5, 5) 1
                name(0, 0) 1
                name(0, 1) 2
                name(0, 2) -3
                name(0, 5) -3
                name(0, 6) -3
                name(0, -1) -3
                name(0, 2147483647) -3
                name(0, -2147483648) -3
                name(1, 0) -5
                name(1, 2) -5
                name(2, 0) -3
                name(60, 0) -3
                name(-1, 0) -3
                run(2) 1
                name(0, 0) 1                 # dead, and its one name
                name(0, 1) -3
                """);
        EdgeTest.edge("PRICE of a BILL at a RATE (0 .. 30). BEYOND, KIND, NO: it isn't LIVE, RATE.", PaperTests.FOUR + """
                bill(1, 2, 3600, 60) 0
                bill(1, 2, 60, 1) 1
                promise(1, 2, 5, 5) 2
                price(0, -1) -7
                price(0, 0) 3600
                price(0, 1) 3594
                price(0, 29) 3426
                price(0, 30) 3420
                price(0, 31) -7
                price(0, 2147483647) -7
                price(0, -2147483648) -7
                price(2, 31) -5
                price(3, 31) -3
                price(-1, 0) -3
                run(2) 1
                price(1, 0) -7               # not live
                price(0, 30) 3426            # a debtor that is down changes nothing in it
                """);
    }
}
