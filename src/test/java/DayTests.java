/** Promises 42 to 45: days, sheets, knowing. */
final class DayTests {
    private DayTests() {
    }

    // Towns 0 - 3 - 1 - 2 - 2; the debtor 1 and the drawer 2 in town 1, the bank 3 in town 2.
    static final String THREE_TOWNS = """
            town() 1
            town() 2
            road(0, 1, 3) 1
            road(1, 2, 2) 2
            house(0, 1) 1
            house(0, 1) 2
            house(1, 2) 3
            gold(0, 1000) 1000
            mind(2, 0, 3) 0
            """;

    static void all() {
        PromiseTest.promise(42, "run", """
                run(0) -7
                run(71) -7
                run(-1) -4
                run(70) 0
                count(0) 70
                9 x run(70) 0
                count(0) 700
                run(1) -8
                run(71) -7                   # NO is ahead of FULL
                run(-1) -4
                sheet(99, 4) 5
                sheet(100, 4) -3
                back() -2
                attempt(5, 1, 0) -8
                count(0) 700
                """);
        PromiseTest.promise(42, "run, to the last day", """
                9 x run(70) 0
                run(69) 0
                run(2) -8
                count(0) 699
                run(1) 0
                count(0) 700
                """);
        duePapers();
        protests();
        selling();
        runs();
        least();
        sheets();
        PromiseTest.promise(45, "count", """
                town() 1
                road(0, 1, 3) 1
                house(0, 0) 1
                house(0, 0) 2
                gold(0, 100) 100
                give(0, 1, 50) 100
                give(1, 0, 30) 0
                burn(0) 1
                forge(1, 1) 1
                present(1, 1) 1
                promise(1, 2, 50, 1) 0
                promise(1, 2, 50, 1) 1
                trade(1, 2, 9, 9) 0
                tape out 5
                text(0, 99) 0
                feed(5, 3) 3
                bill(1, 2, 20, 9) 2
                sell(2) 0
                run(2) 1
                count(0) 2
                count(1) 2
                count(2) 3
                count(3) 1
                count(4) 4
                count(5) 1
                count(6) 1
                count(7) 3
                count(8) 10
                count(9) 3
                count(10) 1
                count(11) 1
                count(12) 1
                count(13) 1
                count(14) -1
                count(15) 5
                count(16) 0
                count(17) 900
                count(18) -7
                count(-1) -7
                tape lift 0-1
                text(0, 99) 1
                count(16) 1
                gold(0, 10) 100
                count(17) 999                # 1000 is held to 999
                """);
    }

    private static void duePapers() {
        PromiseTest.promise(42, "run, papers that are due", PaperTests.FOUR + """
                gold(1, 50) 50
                gold(0, 100) 100
                give(0, 1, 30) 100
                promise(1, 2, 35, 3) 0
                promise(1, 3, 40, 3) 1
                promise(1, 4, 6, 3) 2
                deposit(1, 3, 0) -7
                run(3) 0
                of(0, 5) 0
                run(1) 1                     # 35 and 40 are paid, 6 can't be
                of(0, 0) -3
                of(1, 0) -3
                of(2, 5) 2
                look(1, 7) 5
                look(2, 3) 3                 # three notes and 5 gold
                look(2, 2) 5
                look(3, 2) 40
                down(1, 1) 2
                down(1, 0) 3
                run(1) 0
                of(2, 5) 2
                """);
        PromiseTest.promise(42, "run, what dies with a debtor", PaperTests.FOUR + """
                gold(0, 900) 900
                gold(1, 50) 50
                tape lend 50
                text(0, 99) 0
                deposit(1, 3, 50) 0
                promise(3, 4, 10, 30) 1
                bill(3, 4, 77, 20) 2
                bill(1, 3, 100, 30) 3
                help(3, 20) 4
                promise(3, 1, 120, 2) 5
                give(3, 2, 50) 50
                run(3) 1
                of(0, 5) 2
                of(1, 5) 2
                of(2, 5) 0                   # bills stay
                of(4, 5) 2
                of(5, 5) 2
                of(3, 3) 0
                of(3, 7) 0
                of(3, 5) 0
                run(18) 0
                of(2, 5) 2
                down(3, 0) 2
                """);
        PromiseTest.promise(42, "run, a debtor that holds its own bill", PaperTests.FOUR + """
                gold(3, 10) 10
                mind(2, 0, 3) 0
                bill(3, 2, 10, 5) 0
                sell(0) 10
                of(0, 3) 3
                promise(3, 1, 99, 2) 1
                run(3) 1
                look(3, 4) 0
                run(3) 0
                of(0, 0) -3                  # paid, though it is down
                """);
        PromiseTest.promise(42, "run, to one that is down", PaperTests.FOUR + """
                gold(1, 20) 20
                promise(1, 2, 20, 3) 0
                promise(2, 4, 5, 1) 1
                run(4) 1
                look(2, 2) 20
                look(2, 4) 0
                of(0, 0) -3
                """);
    }

    private static void protests() {
        PromiseTest.promise(42, "run, back along the names", THREE_TOWNS + """
                gold(3, 200) 200
                bill(1, 2, 100, 2) 0
                sell(0) 100
                sell(0) 100
                of(0, 6) 3
                run(3) 1
                of(0, 5) 1
                of(0, 9) 7                   # 2, and 5 from town 2 to town 0
                of(0, 6) 3
                look(3, 3) 10
                gets(0) 0
                run(4) 0
                of(0, 3) 0
                run(1) 0
                of(0, 3) 3
                of(0, 6) 2
                of(0, 9) 9
                look(3, 3) 0
                look(3, 2) 100
                run(2) 0
                of(0, 5) 2
                of(0, 3) 2
                of(0, 6) 1
                of(0, 9) -1
                look(2, 2) 0
                look(3, 2) 200
                """);
        PromiseTest.promise(42, "run, a name that can't, a name that is down", THREE_TOWNS + """
                gold(3, 110) 110
                bill(1, 2, 100, 2) 0
                sell(0) 100
                sell(0) 100
                promise(3, 1, 111, 1) 1
                give(2, 1, 1) 99
                run(8) 2                     # 3 on day 1, 1 on day 2
                of(0, 3) 0                   # 3 is down: struck only
                of(0, 6) 2
                of(0, 5) 1
                of(0, 9) 10
                run(3) 1
                down(2, 0) 10
                down(2, 1) 0
                down(2, 2) 0
                down(2, 3) 1
                of(0, 5) 2
                of(0, 6) 1
                look(2, 2) 99
                """);
        PromiseTest.promise(42, "run, names without a way, and in one town", """
                town() 1
                house(0, 1) 1
                house(0, 0) 2
                house(1, 0) 3
                house(0, 1) 4
                gold(0, 1000) 1000
                mind(2, 0, 3) 0
                mind(4, 0, 3) 0
                gold(3, 100) 100
                bill(1, 2, 50, 1) 0
                sell(0) 50
                bill(1, 4, 50, 1) 1
                sell(1) 50
                run(2) 1
                of(0, 9) 2                   # 1 at least
                of(1, 9) 31                  # 30 without a way
                run(1) 0
                of(0, 5) 2
                of(0, 3) 2
                look(2, 2) 0
                run(28) 0
                of(1, 5) 1
                run(1) 0
                of(1, 5) 2
                of(1, 3) 4
                """);
        PromiseTest.promise(42, "run, the debtor among the names", """
                house(0, 0) 1
                house(0, 0) 2
                house(1, 0) 3
                gold(0, 1000) 1000
                gold(3, 100) 100
                mind(2, 0, 3) 0
                bill(3, 2, 100, 3) 0
                sell(0) 100
                sell(0) 100
                name(0, 2) 3
                give(3, 2, 100) 0
                run(4) 1
                of(0, 5) 1
                of(0, 6) 3
                of(0, 9) 4                   # the drawer: the last one is the debtor
                run(1) 0
                of(0, 3) 2
                of(0, 6) 1
                of(0, 5) 2
                look(2, 7) 100
                """);
    }

    private static void selling() {
        PromiseTest.promise(42, "run, selling", PaperTests.FOUR + """
                gold(0, 100) 100
                gold(2, 5) 5
                mind(2, 50, 0) 0
                bill(1, 2, 30, 40) 0
                bill(1, 2, 25, 20) 1
                bill(1, 2, 27, 20) 2
                bill(1, 2, 90, 10) 3
                run(1) 0
                of(3, 3) 0                   # the one that is due first: 90, enough
                of(1, 3) 2
                of(2, 3) 2
                count(12) 0
                give(2, 3, 90) 5
                run(1) 0
                count(12) 3                  # OUT is 90 of 100: all three are refused
                of(1, 3) 2
                give(3, 0, 20) 0
                run(1) 0
                of(1, 3) 0                   # of those due on one day the first
                of(2, 3) 2
                of(0, 3) 2
                count(12) 5
                look(2, 7) 30
                """);
        PromiseTest.promise(42, "run, selling, till COIN is MIN", PaperTests.FOUR + """
                gold(0, 100) 100
                mind(2, 50, 0) 0
                bill(1, 2, 20, 40) 0
                bill(1, 2, 30, 30) 1
                bill(1, 2, 40, 50) 2
                run(2) 0
                of(1, 3) 0
                of(0, 3) 0
                of(2, 3) 2                   # 50 isn't below 50
                look(2, 7) 50
                """);
        PromiseTest.promise(42, "run, selling, each refused once a day", PaperTests.FOUR + """
                mind(2, 50, 0) 0
                mind(1, 50, 3) 0
                bill(1, 2, 30, 40) 0
                bill(1, 2, 25, 3) 1
                bill(3, 1, 5, 9) 2
                run(1) 0
                count(12) 2
                run(2) 0
                count(12) 6
                run(1) 1                     # 1 is due on day 3: it may not be sold any more
                count(12) 7
                """);
        PromiseTest.promise(42, "run, selling, to a bank that sells it on", PaperTests.FOUR + """
                gold(0, 100) 100
                gold(3, 60) 60
                mind(2, 50, 3) 0
                mind(3, 60, 0) 0
                bill(1, 2, 50, 40) 0
                run(1) 0
                of(0, 3) 2                   # the bank's MIN would be broken
                mind(3, 10, 0) 60
                run(1) 0
                of(0, 3) 3
                mind(3, 11, 0) 10
                run(1) 0
                of(0, 3) 0
                of(0, 6) 3
                look(3, 7) 60
                """);
    }

    private static void runs() {
        PromiseTest.promise(42, "run, deposits are asked on what is heard", """
                town() 1
                road(0, 1, 3) 1
                house(0, 0) 1
                house(1, 0) 2
                house(0, 1) 3
                house(0, 0) 4
                house(1, 0) 5
                gold(1, 90) 90
                gold(4, 20) 20
                deposit(1, 2, 50) 0
                deposit(1, 5, 40) 1
                deposit(4, 2, 20) 2
                bold(1, 0) 9000
                bold(4, 1000) 9000
                give(5, 3, 5) 35
                promise(3, 2, 10, 1) 3
                run(4) 1
                of(0, 5) 0
                run(1) 1                     # heard on day 4; the bank 5 can't give 40
                of(0, 0) -3
                of(1, 5) 2
                down(5, 0) 4
                down(5, 1) 1
                down(5, 2) 1
                down(5, 3) 2
                of(2, 0) -3                  # 4 hears of a second one in that day, behind 1
                look(4, 2) 20
                look(1, 2) 50
                """);
        PromiseTest.promise(42, "run, failures of 29 days ahead", """
                house(0, 0) 1
                house(1, 0) 2
                house(0, 0) 3
                gold(1, 90) 90
                deposit(1, 2, 50) 0
                promise(3, 2, 10, 1) 1
                run(31) 1
                bold(1, 0) 9000
                run(1) 0
                of(0, 5) 0                   # on day 31 the failure of day 1 counts no more
                """);
        PromiseTest.promise(42, "run, failures of 29 days ahead, the last of them", """
                house(0, 0) 1
                house(1, 0) 2
                house(0, 0) 3
                gold(1, 90) 90
                deposit(1, 2, 50) 0
                promise(3, 2, 10, 1) 1
                run(30) 1
                bold(1, 0) 9000
                run(1) 0
                of(0, 0) -3
                """);
        PromiseTest.promise(42, "run, notes are presented on a sheet", """
                town() 1
                road(0, 1, 2) 1
                house(0, 1) 1
                house(0, 0) 2
                gold(0, 100) 100
                give(0, 1, 60) 100
                give(0, 2, 39) 91
                bold(1, 102) 9000
                bold(2, 101) 9000
                run(7) 0
                sheet(0, 5) 101              # 91 and 90
                run(1) 0
                look(2, 3) 3                 # 101 isn't below 101
                look(1, 3) 6
                run(1) 0
                look(1, 3) 0                 # heard in town 1 on day 8
                look(1, 2) 60
                """);
        PromiseTest.promise(42, "run, notes are presented, not shown", """
                house(0, 0) 1
                house(0, 0) 2
                gold(0, 25) 25
                tape out 999
                text(0, 99) 0
                tape show 31 if week=0
                text(0, 99) 1
                give(0, 1, 30) 25
                give(0, 2, 30) 25
                bold(1, 999) 9000
                bold(2, 999) 9000
                run(14) 0
                look(1, 3) 3
                sheet(0, 5) -1
                sheet(1, 5) 41
                run(1) 0
                look(1, 3) 1                 # two could be paid
                look(1, 2) 20
                look(2, 3) 3                 # behind that none
                count(14) 14
                """);
    }

    private static void least() {
        PromiseTest.promise(42, "run, notes are presented, the least CARE", """
                house(0, 0) 1
                gold(0, 100) 100
                give(0, 1, 100) 100
                gold(0, 5) 105
                bold(1, 1) 9000
                flow(10) 0
                tell(1, 0, 15) -1
                run(7) 0
                look(0, 2) 5
                sheet(0, 5) 5
                run(1) 0
                look(1, 3) 10                # 5 isn't below 1
                count(14) -1
                give(0, 1, 5) 0
                run(6) 0
                sheet(1, 5) 0
                count(14) 13
                """);
        PromiseTest.promise(42, "run, notes are presented, a RESERVE of 0", """
                house(0, 0) 1
                gold(0, 100) 100
                give(0, 1, 100) 100
                bold(1, 1) 9000
                flow(10) 0
                tell(1, 0, 15) -1
                run(7) 0
                sheet(0, 5) 0
                count(14) -1
                gold(0, 20) 20
                run(1) 0
                look(1, 3) 8                 # 0 is below 1
                look(1, 2) 20
                count(14) 7
                """);
    }

    private static void sheets() {
        PromiseTest.promise(43, "sheet", PaperTests.FOUR + """
                gold(0, 950) 950
                tape lend 50
                text(0, 99) 0
                tape hide 2
                text(0, 10) 1
                tape rate price+1 if week<2
                text(0, 99) 2
                bill(1, 2, 500, 50) 0
                bill(1, 2, 100, 50) 1
                bill(1, 2, 60, 50) 2
                bill(1, 2, 70, 40) 3
                help(0, 40) 4
                sell(3) 70
                run(4) 0
                help(1, 40) 5                # made on day 4, two days ago
                run(2) 0
                sheet(0, 0) -3
                run(1) 0
                sheet(0, 0) 950
                sheet(0, 1) 370
                sheet(0, 2) 120
                sheet(0, 3) 251
                sheet(0, 4) 5
                sheet(0, 5) 256
                count(15) 6
                run(6) 0
                help(2, 30) 6                # of this day: hidden without a law
                run(1) 0
                sheet(1, 2) 100
                sheet(1, 3) 301
                sheet(1, 4) 6
                count(15) 7
                run(7) 0
                sheet(2, 2) 70
                sheet(2, 3) 331
                count(15) 7
                sheet(2, 6) -7
                sheet(2, -1) -7
                sheet(3, 9) -3               # BEYOND is ahead of NO
                sheet(-1, 0) -3
                """);
        PromiseTest.promise(43, "sheet, what is shown", """
                house(0, 0) 1
                gold(0, 77) 77
                give(0, 1, 10) 77
                tape show 1+4*week*week+32
                text(0, 14) 0
                tape show 0-2 if week=2
                text(0, 99) 1
                run(28) 0
                sheet(0, 0) 77
                sheet(0, 1) -1
                sheet(0, 2) -1
                sheet(0, 3) -1
                sheet(0, 4) -1
                sheet(0, 5) 770
                sheet(1, 2) 0
                sheet(1, 3) -1
                sheet(2, 0) -1
                sheet(2, 1) 10
                sheet(2, 5) 770
                sheet(3, 0) 77
                sheet(3, 4) 5
                """);
        PromiseTest.promise(43, "sheet, the rule held to its bounds", """
                tape rate 21-week*30
                text(0, 99) 0
                run(7) 0
                count(15) 20
                run(7) 0
                count(15) 0
                """);
        PromiseTest.promise(44, "knew", """
                town() 1
                town() 2
                road(0, 1, 3) 1
                house(0, 1) 1
                house(0, 2) 2
                house(0, 0) 3
                gold(0, 50) 50
                give(0, 3, 10) 50
                promise(1, 3, 5, 2) 0
                run(3) 1
                knew(3, 0, 3) 0
                knew(1, 0, 1) 0
                knew(1, 0, 2) 1              # it knows of itself
                run(20) 0
                knew(0, 0, 4) 0
                knew(0, 0, 5) 1
                knew(3, 0, 5) 1
                knew(2, 0, 23) 0             # no way
                knew(3, 1, 5) -1
                knew(3, 1, 6) 0
                knew(3, 1, 12) 0
                knew(3, 1, 13) 1
                knew(3, 1, 23) 2
                knew(1, 1, 8) -1
                knew(1, 1, 9) 0
                knew(1, 1, 22) 1
                knew(1, 1, 23) 2
                knew(2, 1, 23) -1
                knew(3, 2, 6) 500
                knew(3, 2, 5) -1
                knew(2, 2, 23) -1
                knew(3, 3, 5) -7
                knew(3, -1, 5) -7
                knew(3, 0, 24) -3
                knew(3, 0, -1) -3
                knew(4, 9, 5) -3             # BEYOND is ahead of NO
                knew(-1, 0, 5) -3
                run(8) 0
                knew(1, 0, 31) 1
                run(1) 0
                knew(1, 0, 32) 0             # day 2 is the 30th ahead
                knew(3, 0, 31) 1
                """);
        PromiseTest.promise(44, "knew, on the open day", """
                house(0, 0) 1
                house(1, 0) 2
                house(0, 0) 3
                gold(1, 10) 10
                deposit(1, 2, 10) 0
                give(2, 3, 5) 5
                run(6) 0
                ask(0) 0
                knew(1, 0, 6) 1
                knew(1, 1, 6) -1             # the sheet of this day isn't made yet
                run(1) 0
                knew(1, 1, 6) 0
                """);
    }
}
