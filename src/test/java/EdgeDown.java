/** Sections 4 and 7 of the document: who is down, protested bills, what claims get. */
final class EdgeDown {
    private EdgeDown() {
    }

    // Towns 0 - 1 - 2, two days and one day; the debtor 1 and the drawer 2 in town 0, the bank 3 in town 2.
    static final String LAND = """
            town() 1
            town() 2
            road(0, 1, 2) 1
            road(1, 2, 1) 2
            house(0, 0) 1
            house(0, 0) 2
            house(1, 2) 3
            gold(0, 1000) 1000
            mind(2, 0, 3) 0
            """;

    static void all() {
        down();
        noted();
        asked();
        namesOfMany();
        askedNames();
        holders();
        namesThatPayTheFallen();
        claims();
        shares();
    }

    private static void down() {
        EdgeTest.edge("DOWN: a HOUSE that CAN'T GIVE what it must, as told below, is DOWN from then on; it GIVES, buys,"
                + " sells, draws, asks nothing any more.", PaperTests.FOUR + """
                gold(0, 900) 900
                give(0, 1, 30) 900
                gold(1, 9) 9
                gold(2, 80) 80
                bold(1, 999) 9000
                mind(1, 500, 0) 0
                deposit(1, 3, 10) 0
                bill(2, 1, 20, 9) 1
                trade(1, 2, 100, 9) 0
                trade(2, 1, 100, 9) 1
                goesOn(0, 0) 1
                goesOn(1, 0) 1
                promise(1, 2, 29, 2) 2
                promise(1, 2, 1, 2) 3        # 29 is all it has
                mind(1, 0, 0) 500
                run(2) 0
                look(1, 7) 29
                run(1) 1                     # 29 is paid, 1 can't be
                look(1, 4) 0
                look(1, 7) 0
                down(1, 1) 3
                mind(1, 500, 0) 0            # it may be told, but it sells nothing
                bold(1, 0) 999
                goesOn(0, 1) 0
                goesOn(1, 1) 0
                gold(1, 5) -7
                give(2, 1, 5) -7
                promise(1, 2, 5, 5) -7
                bill(2, 1, 5, 5) -7
                deposit(1, 3, 5) -7
                sell(1) -7
                help(1, 2) -7
                ask(0) -7
                forge(1, 0) -7
                run(6) 0
                count(4) 3                   # no trade draws, with it on either side
                of(1, 3) 1
                count(12) 0
                of(0, 5) 0                   # its deposit isn't asked
                run(1) 0
                of(1, 0) -3                  # it is paid what is due to it
                look(1, 7) 20
                """);
        EdgeTest.edge("Its PAPERS (as DEBTOR) that are PROMISES, DEPOSITS, PLEDGES are DEAD; of a PLEDGE the BILL is"
                + " THE BANK's (not in PLEDGE any more). BILLS stay as they are till they are DUE.", PaperTests.FOUR
                + """
                gold(0, 900) 900
                gold(1, 20) 20
                tape lend 50
                text(0, 99) 0
                bill(2, 3, 60, 20) 0
                help(0, 9) 1
                deposit(1, 3, 20) 2
                promise(3, 4, 5, 30) 3
                bill(3, 4, 7, 6) 4
                bill(3, 4, 8, 5) 5
                promise(1, 3, 9, 40) 6       # it holds this one
                promise(4, 1, 9, 40) 7
                give(3, 4, 50) 0
                of(0, 7) 1
                run(5) 0
                ask(2) 0
                of(1, 5) 2
                of(2, 5) 2
                of(3, 5) 2
                of(4, 5) 0
                of(5, 5) 0
                of(6, 5) 0                   # of others
                of(7, 5) 0
                of(0, 7) 0
                of(0, 3) 0
                of(0, 5) 0
                of(1, 8) 0
                price(5, 0) 8
                run(1) 0                     # it is down already
                of(5, 5) 2
                of(4, 5) 0
                run(1) 0
                of(4, 5) 2
                help(0, 1) -5
                """);
    }

    private static void noted() {
        EdgeTest.edge("Noted is the DAY, the PAPER, to whom it must GIVE, how it came: 0 DUE, 1 as a name, 2 ASKED.",
                LAND + """
                gold(3, 40) 40
                gold(1, 30) 30
                bill(1, 2, 40, 3) 0
                sell(0) 40
                deposit(1, 3, 30) 1
                give(3, 2, 1) 29
                run(4) 1
                down(1, 0) 3
                down(1, 1) 0
                down(1, 2) 3                 # the holder
                down(1, 3) 0
                give(2, 0, 2) 39
                run(3) 1
                down(2, 0) 6                 # three days from town 2 to town 0
                down(2, 1) 0
                down(2, 2) 3
                down(2, 3) 1
                ask(1) -7
                house(0, 0) 4
                gold(4, 9) 9
                deposit(4, 3, 9) 2
                give(3, 4, 30) 8
                ask(2) 0
                down(3, 0) 7
                down(3, 1) 2
                down(3, 2) 4
                down(3, 3) 2
                count(13) 3
                """);
        EdgeTest.edge("That the HOLDER is DOWN changes nothing.", LAND + """
                gold(1, 30) 30
                gold(2, 20) 20
                bill(1, 2, 30, 3) 0
                bill(2, 3, 20, 2) 1
                promise(1, 3, 1, 9) 2
                promise(2, 1, 21, 1) 3
                promise(3, 1, 5, 1) 4
                run(2) 2
                look(2, 4) 0
                run(1) 0
                of(1, 5) 2                   # the drawer holds it: no name but the debtor
                run(1) 0
                of(0, 0) -3                  # paid to one that is down
                look(2, 7) 50
                """);
    }

    private static void asked() {
        EdgeTest.edge("ASKED is the last of its NAMES that isn't the HOLDER, nor the DEBTOR, on the DAY so many DAYS"
                + " behind the one in which it was PROTESTED (or the one ahead was ASKED) as it is FAR from the HOLDER"
                + " (1 at least; without a way 30).", LAND + """
                gold(3, 200) 200
                bill(1, 2, 100, 4) 0
                sell(0) 100
                sell(0) 100
                of(0, 9) -1
                run(4) 0
                of(0, 9) -1
                run(1) 1
                of(0, 5) 1
                of(0, 9) 7                   # 4, and 3 from town 2 to TOWN 0
                of(0, 3) 0
                run(2) 0
                of(0, 3) 0
                of(0, 9) 7
                look(3, 7) 200
                run(1) 0
                of(0, 3) 3                   # on day 7 it paid
                look(3, 7) 100
                of(0, 5) 1
                of(0, 6) 2
                of(0, 9) 10                  # 7, and 3: how far it is from the new holder
                run(2) 0
                of(0, 3) 3
                run(1) 0
                of(0, 3) 2
                of(0, 5) 2
                of(0, 9) -1
                of(0, 6) 1
                look(3, 7) 200
                """);
        EdgeTest.edge("(1 at least; without a way 30).", """
                town() 1
                town() 2
                road(0, 2, 1) 1
                house(0, 0) 1
                house(0, 0) 2
                house(0, 1) 3
                house(0, 2) 4
                gold(0, 1000) 1000
                bill(1, 2, 10, 2) 0          # in one town: FAR is 0
                bill(1, 3, 10, 2) 1          # without a way
                bill(1, 4, 10, 2) 2          # FAR is 1
                sell(0) 10
                sell(1) 10
                sell(2) 10
                run(3) 1
                of(0, 9) 3
                of(1, 9) 32
                of(2, 9) 3
                road(0, 1, 30) 2             # a way as long as none; the day stays
                of(1, 9) 32
                run(1) 0
                of(0, 5) 2
                of(2, 5) 2
                of(1, 5) 1
                run(28) 0
                of(1, 5) 1                   # day 32 is open
                run(1) 0
                of(1, 5) 2
                of(1, 3) 3
                """);
        EdgeTest.edge("(1 at least; without a way 30).", """
                town() 1
                town() 2
                road(0, 1, 30) 1
                road(1, 2, 30) 2
                house(0, 0) 1
                house(0, 1) 2
                house(0, 2) 3
                gold(0, 1000) 1000
                bill(1, 2, 10, 1) 0
                bill(1, 3, 10, 1) 1
                sell(0) 10
                sell(1) 10
                run(2) 1
                of(0, 9) 31
                of(1, 9) 61                  # FAR may be more than 30
                run(30) 0
                of(0, 5) 2
                of(1, 5) 1
                run(29) 0
                of(1, 5) 1
                run(1) 0
                of(1, 5) 2
                """);
    }

    private static void namesOfMany() {
        EdgeTest.edge("if it is UP and CAN'T, it is DOWN (1), and struck likewise", PaperTests.FOUR + """
                gold(0, 90) 90
                give(0, 4, 10) 90
                give(4, 0, 10) 0
                burn(0) 1
                bill(1, 2, 10, 1) 0
                sell(0) 10
                give(2, 4, 10) 0
                forge(2, 0) 1                # all that it has: a copy of a NUMBER that isn't OUT
                run(2) 1
                of(0, 3) 0
                of(0, 9) 2
                run(1) 1
                down(2, 2) 0
                down(2, 3) 1
                look(2, 3) 1
                count(11) 0
                """);
        EdgeTest.edge("ASKED is the last of its NAMES that isn't the HOLDER, nor the DEBTOR", LAND + """
                house(0, 0) 4
                gold(3, 50) 50
                mind(4, 0, 3) 0
                bill(1, 2, 30, 9) 0
                bill(1, 4, 20, 2) 1
                sell(1) 20
                run(5) 1
                of(1, 9) 5
                run(1) 0                     # the drawer of this bill pays, not that of the one ahead
                of(1, 3) 4
                look(4, 7) 0
                look(4, 4) 1
                look(2, 4) 1
                """);
        EdgeTest.edge("ASKED is the last of its NAMES that isn't the HOLDER, nor the DEBTOR", PaperTests.FOUR + """
                house(0, 0) 5
                gold(0, 900) 900
                gold(4, 99) 99
                bill(1, 2, 10, 1) 0
                bill(1, 5, 11, 1) 1
                bill(1, 3, 12, 1) 2
                bill(3, 2, 13, 1) 3
                bill(4, 5, 14, 1) 4
                bill(1, 2, 15, 1) 5
                bill(1, 4, 16, 1) 6
                sell(0) 10
                sell(1) 11
                sell(2) 12
                sell(6) 16
                run(2) 2
                of(0, 9) 2
                of(6, 9) 2
                of(3, 9) -1
                of(5, 9) -1
                run(1) 0                     # each of its own drawer
                of(0, 3) 2
                of(1, 3) 5
                of(2, 3) 0
                of(2, 5) 2                   # 3 is down: it couldn't pay 13
                of(3, 5) 2
                of(4, 0) -3
                of(5, 5) 2
                of(6, 3) 4
                look(2, 7) 0
                look(5, 7) 14
                look(4, 7) 85
                """);
    }

    private static void askedNames() {
        EdgeTest.edge("Then: if it is UP, and CAN: it GIVES SUM to the HOLDER, is the HOLDER, and it and all NAMES"
                + " behind it are struck; if it is UP and CAN'T, it is DOWN (1), and struck likewise; if it is DOWN,"
                + " it is struck likewise. If no name is left but the DEBTOR: the BILL is DEAD.", LAND + """
                gold(3, 100) 100
                bill(1, 2, 100, 2) 0
                sell(0) 100
                sell(0) 100
                bill(1, 2, 50, 2) 1
                sell(1) 50
                sell(1) 50
                look(3, 7) 100               # ten notes of THE BANK
                give(2, 0, 51) 99
                look(2, 7) 99
                run(3) 1
                of(0, 9) 5
                of(1, 9) 5
                run(3) 1                     # 3 pays 100, then can't pay 50
                of(0, 3) 3
                of(0, 6) 2
                of(0, 9) 8
                of(1, 3) 0
                of(1, 6) 2
                of(1, 9) 6                   # 1 from TOWN 0 to itself
                down(3, 0) 5
                down(3, 1) 1
                down(3, 3) 1
                run(1) 0
                of(1, 3) 2                   # 2 pays 50, 49 is left
                of(1, 6) 1
                of(1, 5) 2
                look(2, 7) 49
                run(2) 1
                of(0, 3) 3                   # and can't pay 100 to 3, that is down
                of(0, 6) 1
                of(0, 5) 2
                down(2, 0) 8
                down(2, 2) 3
                down(2, 3) 1
                count(13) 3
                """);
        EdgeTest.edge("if it is UP, and CAN: it GIVES SUM to the HOLDER", LAND + """
                gold(3, 100) 100
                bill(1, 2, 100, 2) 0
                sell(0) 100
                bill(1, 2, 60, 2) 1
                mind(2, 0, 0) 0
                sell(1) 60
                run(3) 1
                of(0, 9) 5
                of(1, 9) 3
                look(2, 2) 100
                give(2, 3, 60) ?
                look(2, 7) 100
                run(1) 0                     # just enough: 60 of 100
                of(1, 3) 2
                of(1, 5) 2
                look(2, 7) 40
                give(0, 2, 60) ?
                run(2) 0                     # and 100 of 100
                look(2, 7) 0
                look(2, 4) 1
                of(0, 3) 2
                """);
        EdgeTest.edge("If no name is left but the DEBTOR: the BILL is DEAD.", LAND + """
                gold(3, 110) 110
                bill(3, 2, 100, 3) 0
                sell(0) 100                  # names 3, 2; the bank holds what it owes
                sell(0) 100
                of(0, 6) 3                   # names 3, 2, 3
                give(3, 2, 10) 10
                run(4) 0                     # nine notes and 10 gold: it can pay
                of(0, 0) -3
                bill(3, 2, 100, 3) 0
                gold(3, 200) 200
                sell(0) 100
                sell(0) 100
                give(3, 2, 101) ?
                look(3, 7) 99
                run(4) 1
                of(0, 6) 3
                of(0, 9) 8                   # the drawer is asked: the last name is the debtor
                run(1) 0
                of(0, 6) 1                   # the last name, the debtor's, goes with it
                of(0, 5) 2
                of(0, 3) 2
                """);
    }

    private static void holders() {
        EdgeTest.edge("(A HOLDER that is among NAMES behind the first is struck, with those behind it, as the BILL is"
                + " PROTESTED.)", LAND + """
                gold(3, 500) 500
                bill(1, 2, 50, 2) 0          # held by the drawer
                bill(1, 2, 60, 2) 1
                sell(1) 60                   # held by the bank, that isn't among the names
                run(3) 1
                of(0, 6) 1
                of(0, 5) 2
                of(0, 9) -1
                of(1, 6) 2
                of(1, 5) 1
                of(1, 9) 5
                """);
        EdgeTest.edge("(DEAD, if there is no other name)", PaperTests.FOUR + """
                gold(0, 900) 900
                tape lend 50
                text(0, 9) 0
                bill(1, 2, 100, 9) 0
                help(0, 3) 1
                bill(1, 2, 100, 9) 2
                help(2, 3) 3
                give(2, 3, 50) ?
                run(4) 1                     # 50 is paid, 50 can't be: 2 is down
                of(0, 3) 2
                of(2, 3) 0
                of(3, 5) 2
                run(6) 1
                of(0, 5) 2                   # the drawer holds it
                of(0, 6) 1
                of(2, 5) 1                   # THE BANK holds it: the drawer is asked, though down
                of(2, 6) 2
                of(2, 9) 10
                run(1) 0
                of(2, 5) 2
                of(2, 3) 0
                of(2, 6) 1
                """);
    }

    private static void namesThatPayTheFallen() {
        EdgeTest.edge("That the HOLDER is DOWN changes nothing.", LAND + """
                gold(3, 50) 50
                bill(1, 2, 50, 2) 0
                sell(0) 50
                promise(3, 1, 1, 1) 1
                run(3) 2
                of(0, 9) 5                   # the drawer is asked by the bank, that is down
                run(3) 0
                look(3, 7) 50
                look(2, 7) 0
                look(2, 4) 1
                of(0, 3) 2
                """);
    }

    private static void claims() {
        EdgeTest.edge("PAPERS that are DEAD, or PROTESTED, or LIVE, whose DEBTOR is DOWN, are CLAIMS on it.",
                PaperTests.FOUR + """
                gold(0, 500) 500
                bill(1, 2, 50, 2) 0
                bill(1, 2, 50, 2) 1
                bill(1, 2, 50, 9) 2
                promise(1, 2, 50, 9) 3
                promise(2, 1, 30, 50) 4
                sell(0) 50
                run(2) 0
                gets(0) -2                   # no claim: its debtor is up
                assets(1) -2
                run(1) 1
                of(0, 5) 1
                of(1, 5) 2
                of(2, 5) 0
                of(3, 5) 2
                assets(1) 30                 # what 2 owes, that is up
                gets(0) 7                    # of 30, 50 of 200
                gets(1) 7
                gets(2) 7
                gets(3) 7
                gets(4) -2
                gets(5) -3
                """);
        EdgeTest.edge("its COIN, and of PAPERS that it holds the SUM (if the DEBTOR is UP), or what the CLAIM GETS.",
                PaperTests.FOUR + """
                gold(1, 15) 15
                promise(1, 2, 10, 1) 0
                promise(1, 3, 40, 2) 1
                promise(2, 3, 20, 2) 2
                run(3) 2
                of(0, 0) -3                  # paid, ahead of both failures: no claim any more
                assets(1) 5
                gets(1) 5
                assets(2) 10
                gets(2) 10
                """);
        EdgeTest.edge("its COIN, and of PAPERS that it holds the SUM (if the DEBTOR is UP), or what the CLAIM GETS.",
                PaperTests.FOUR + """
                gold(0, 500) 500
                give(0, 1, 20) 500
                gold(1, 3) 3
                bill(2, 1, 40, 30) 0
                promise(3, 1, 50, 9) 1
                promise(1, 4, 24, 1) 2
                run(2) 1
                assets(1) 113                # 23, 40, 50
                gets(2) 24
                run(8) 1                     # 3 is down, without a coin
                assets(1) 63
                gets(1) 0
                gold(3, 5) -7
                promise(2, 4, 1, 1) 3
                run(2) 1
                assets(1) 23
                gets(2) 23
                assets(2) 0
                assets(3) 0
                """);
        EdgeTest.edge("From 0 for all CLAIMS on this is worked for all HOUSES DOWN, all together anew and anew, till"
                + " nothing changes.", PaperTests.FOUR + """
                gold(1, 1) 1
                promise(1, 2, 9999, 1) 0
                promise(2, 1, 9999, 2) 1
                run(3) 2
                gets(0) 9999                 # one coin goes round till all is got
                gets(1) 9999
                assets(1) 10000
                assets(2) 9999
                """);
        EdgeTest.edge("From 0 for all CLAIMS", PaperTests.FOUR + """
                promise(1, 2, 9999, 1) 0
                promise(2, 1, 9999, 2) 1
                run(3) 2
                gets(0) 0                    # without a coin nothing comes of it
                gets(1) 0
                assets(1) 0
                assets(2) 0
                """);
    }

    private static void shares() {
        for (String told : new String[] {"1 0 0", "99 59 39", "100 60 40"}) {
            String[] due = told.split(" ");
            EdgeTest.edge("CLAIMS that are DEPOSITS come first: if ASSETS are enough for their SUMS each GETS its SUM;"
                    + " else each SUM times ASSETS / all these SUMS, and the others 0.",
                    banksOf(Integer.parseInt(due[0])) + "gets(0) " + due[1] + "\ngets(1) " + due[2]
                    + "\ngets(2) 0\ngets(3) 0\nassets(3) " + due[0]);
        }
        for (String told : new String[] {"101 0 0", "102 1 0", "103 1 1", "149 29 19", "150 30 20", "151 30 20"}) {
            String[] due = told.split(" ");
            EdgeTest.edge("If they were enough, of what is left the others likewise.",
                    banksOf(Integer.parseInt(due[0])) + "gets(0) 60\ngets(1) 40\ngets(2) " + due[1]
                    + "\ngets(3) " + due[2] + "\nassets(3) " + due[0]);
        }
        EdgeTest.edge("What a CLAIM GETS. BEYOND, MISSING: it is no CLAIM.", banksOf(150) + """
                promise(2, 1, 5, 5) 4
                gets(4) -2
                gets(5) -3
                gets(59) -3
                gets(60) -3
                gets(-1) -3
                gets(3) 20
                """);
        EdgeTest.edge("ASSETS of a HOUSE that is DOWN. BEYOND, MISSING: it is UP.", banksOf(150) + """
                assets(3) 150
                assets(1) -2
                assets(0) -2
                assets(4) -2
                assets(5) -3
                assets(-1) -3
                """);
    }

    // The bank 3 is down with so much gold; it owes deposits of 60 and 40, a promise of 30, a bill of 20.
    private static String banksOf(int gold) {
        return PaperTests.FOUR + """
                gold(1, 100) 100
                gold(4, GOLD) GOLD
                deposit(1, 3, 60) 0
                deposit(1, 3, 40) 1
                promise(3, 2, 30, 9) 2
                bill(3, 2, 20, 9) 3
                promise(4, 3, GOLD, 1) 4
                give(3, 2, 100) 0
                ask(0) 0
                run(2) 0
                look(3, 7) GOLD
                """.replace("GOLD", String.valueOf(gold));
    }
}
