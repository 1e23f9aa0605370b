/** Section 9 of the document: refusals; THE ROW; promises 2 to 5, 15, 22, 51 to 56. */
final class EdgeRows {
    private EdgeRows() {
    }

    static void all() {
        refusals();
        refusedCalls();
        land();
        laying();
        numbers();
        copying();
        status();
        calls();
    }

    private static void refusals() {
        EdgeTest.edge("9 REFUSALS, of several the first as each line has them: BEYOND a number beyond (no such TOWN,"
                + " HOUSE, PAPER, NUMBER, TEXT), MISSING nothing there, KIND of another kind, BELOW a count below 0, COPY,"
                + " NO not as told, FULL no room.", """
                road(0, 9, 99) -3            # BEYOND, NO
                road(0, 0, 99) -7
                house(9, 9) -3               # BEYOND, KIND
                house(9, 0) -5
                gold(9, -1) -3               # BEYOND, NO
                mind(9, -1, 9) -3            # BEYOND, KIND, NO
                mind(0, -1, 0) -5
                house(0, 0) 1
                mind(1, -1, 1) -5
                mind(1, -1, 0) -7
                down(9, 9) -3                # BEYOND, MISSING, NO
                down(1, 9) -2
                give(9, 9, 0) -3             # BEYOND, NO
                give(1, 1, 0) -7
                present(9, 0) -3             # BEYOND, KIND, NO
                present(0, 0) -5
                present(1, 0) -7
                forge(0, 999) -3             # BEYOND, KIND, NO
                forge(0, 0) -5
                forge(1, 0) -7
                deposit(0, 9, 0) -3          # BEYOND, KIND, NO
                deposit(0, 0, 0) -5
                house(1, 0) 2
                deposit(2, 2, 0) -7
                name(9, 9) -3                # BEYOND, KIND, BEYOND
                price(9, 99) -3
                gets(9) -3
                assets(9) -3
                assets(1) -2
                feed(0, -1) -4               # BELOW, NO, FULL
                feed(0, 5) -7
                run(-1) -4                   # BELOW, NO, FULL
                run(0) -7
                lay(-1) -4
                lay(61) -7
                copy(-1, -1, -1) -2          # MISSING, BELOW, COPY
                lay(1) 1
                copy(-1, -1, -1) -4
                copy(-1, -1, 1) -6
                judge() -5                   # MISSING, KIND, FULL
                knew(9, 9, 9) -3
                knew(1, 9, 9) -3             # BEYOND: HOUSE, DAY
                knew(1, 9, 0) -7
                sheet(0, 9) -3
                attempt(-1, 9, 9) -3
                attempt(-1, 9, 0) -7
                plan(-1, 9) -7
                status(-2) 3
                status(-3) 17
                status(-4) 4
                status(-5) 7
                status(-6) 1
                status(-7) 12
                status(-8) 0
                """);
        for (String told : "NONE:None -1,MISSING:Nothing there -2,BEYOND:A number beyond -3,BELOW:A count below 0 -4,"
                .concat("KIND:Of another kind -5,COPY:A copy that can't be made -6,NO:Not as told -7,")
                .concat("FULL:There is no room -8").split(",")) {
            String name = told.substring(0, told.indexOf(':'));
            String text = told.substring(told.indexOf(':') + 1, told.lastIndexOf(' '));
            int value = Integer.parseInt(told.substring(told.lastIndexOf(' ') + 1));
            EdgeTest.edge("`" + name + " = " + value + "`: " + text + ".",
                    value == -1 ? "status(-1) -7" : "status(" + value + ") 0");
        }
    }

    // ModelTest holds runs by chance against the same runs without the calls that were refused.
    private static void refusedCalls() {
        EdgeTest.edge("A refused call changes nothing but status().", PaperTests.FOUR + """
                7 x town() 1..
                road(0, 1, 9) 1
                gold(0, 100) 100
                give(0, 1, 30) 100
                forge(1, 0) 1
                gold(1, 5) 5
                bill(1, 2, 50, 9) 0
                promise(1, 2, 7, 9) 1
                deposit(1, 3, 10) 2
                trade(1, 2, 9, 9) 0
                tape rate 3
                text(9, 99) 0
                tape out
                lay(2) 2
                set(0, 6) 0
                town() -8
                road(0, 1, 31) -7
                house(2, 0) -5
                gold(1, 10001) -7
                mind(1, 10000, 3) -7
                mind(1, 5, 2) -5
                bold(1, 10000) -7
                give(1, 0, 60) -7            # nothing is found by it
                present(1, 0) -7
                present(0, 9) -5
                burn(0) -7
                forge(1, 99) -7
                promise(1, 2, 0, 5) -7
                bill(1, 2, 5, 61) -7
                deposit(1, 3, 60) -7
                help(0, 5) -7
                sell(1) -5
                ask(0) -5
                trade(1, 2, 0, 5) -7
                goesOn(0, 2) -7
                tell(0, 0, 201) 0
                read(2) -3
                flow(101) -7
                rate(21) -7
                feed(65, 5) -7
                text(9, 9) -7
                text(0, 9) -13
                run(71) -7
                attempt(21, 1, 0) -7
                plan(21, 1) -7
                judge() -5
                back() -2
                lay(61) -7
                set(2, 9) 0
                copy(0, 1, 2) -6
                status(-9) -7
                count(0) 0
                count(1) 8
                count(2) 5
                count(3) 1
                count(4) 3
                count(5) 1
                count(6) 1
                count(7) 3
                count(8) 30
                count(9) 0
                count(11) 0
                count(12) 0
                count(13) 0
                count(15) 5
                far(0, 1) 9
                look(0, 2) 100
                look(1, 2) 5
                look(1, 3) 3
                look(1, 5) 0
                look(1, 6) 0
                look(3, 3) 1
                copyAt(0, 0) 3
                copyAt(0, 1) 1
                week(0, 0) 100
                row(0) 6
                row(1) 0
                tear() 1
                bold(1, 0) 9000
                flow(0) 0
                goesOn(0, 1) 1
                rate(5) 5
                """);
    }

    private static void land() {
        EdgeTest.edge("A TOWN more: its number. FULL.", """
                7 x town() 1..
                town() -8
                town() -8
                count(1) 8
                status(-8) 2
                """);
        EdgeTest.edge("A ROAD: how many there are. BEYOND, NO: a TOWN and itself, DAYS; FULL.", """
                road(0, 1, 5) -3
                road(1, 0, 5) -3
                road(-1, 0, 5) -3
                road(0, 2147483647, 0) -3
                road(0, 0, 5) -7
                town() 1
                road(1, 1, 5) -7
                road(0, 1, 0) -7
                road(0, 1, 31) -7
                road(1, 0, 1) 1
                14 x road(0, 1, 30) 2..
                road(1, 0, 30) 16
                road(0, 1, 30) -8
                road(0, 0, 30) -7
                road(0, 1, 31) -7
                road(0, 2, 31) -3
                count(3) 16
                far(0, 1) 1
                """);
        EdgeTest.edge("FAR. BEYOND.", """
                far(0, 0) 0
                far(0, 1) -3
                far(1, 0) -3
                far(-1, 0) -3
                far(0, -2147483648) -3
                town() 1
                far(0, 1) -1                 # NONE is no refusal
                status(-3) 4
                """);
        EdgeTest.edge("A HOUSE (without GOLD): its number. BEYOND: TOWN; KIND: neither 0 nor 1; FULL.", """
                house(2, 1) -3
                house(0, -1) -3
                house(0, 2147483647) -3
                house(2, 0) -5
                house(-1, 0) -5
                14 x house(1, 0) 1..
                house(0, 0) 15
                look(15, 2) 0
                look(1, 2) 0
                house(0, 0) -8
                house(2, 0) -5               # KIND is ahead of FULL
                house(0, 1) -3
                count(2) 16
                """);
        EdgeTest.edge("State of a NUMBER: 0 NEW, 1 OUT, 2 IN, 3 BURNT. BEYOND.", """
                house(0, 0) 1
                gold(0, 50) 50
                give(0, 1, 30) 50
                give(1, 0, 20) 0
                burn(0) 1
                number(0) 3
                number(1) 2
                number(2) 1
                number(3) 0
                number(299) 0
                number(300) -3
                number(-1) -3
                number(2147483647) -3
                number(-2147483648) -3
                status(-3) 4
                """);
    }

    private static void laying() {
        EdgeTest.edge("THE ROW becomes n numbers, all 0 (n 0 .. 60): n. BELOW, NO.", """
                lay(-1) -4
                lay(-2147483648) -4
                lay(61) -7
                lay(2147483647) -7
                tear() 0                     # none was laid
                lay(0) 0
                row(0) 0
                status(-3) 1
                status(-2) 0
                tear() 1
                lay(1) 1
                set(0, 5) 0
                row(1) 0
                status(-3) 2
                lay(-1) -4
                lay(61) -7
                row(0) 5                     # it stays
                lay(60) 60
                row(0) 0
                set(59, 6) 0
                lay(59) 59
                lay(60) 60
                row(59) 0
                set(59, 7) 0
                lay(60) 60
                row(59) 0
                row(60) 0
                status(-3) 3
                """);
        EdgeTest.edge("THE ROW is missing: 1 if it was there, else 0 (at first it is missing).", """
                row(0) 0
                status(-2) 1
                tear() 0
                lay(0) 0
                tear() 1
                tear() 0
                lay(4) 4
                set(0, 3) 0
                tear() 1
                row(0) 0
                status(-2) 2
                lay(4) 4
                row(0) 0
                plan(0, 1) 0
                tear() 1
                judge() -2
                """);
    }

    private static void numbers() {
        EdgeTest.edge("Number i of THE ROW becomes v: the one before. MISSING: 0; BEYOND: 0, and status() tells of it.",
                """
                set(0, 5) 0
                set(-1, 5) 0                 # MISSING is ahead of BEYOND
                status(-2) 2
                status(-3) 0
                lay(2) 2
                set(-1, 5) 0
                set(2, 5) 0
                set(2147483647, 5) 0
                set(-2147483648, 5) 0
                status(-3) 4
                set(0, 2147483647) 0
                set(0, -2147483648) 2147483647
                set(0, -1) -2147483648
                set(1, -8) 0
                set(1, 1) -8                 # the number before, no refusal
                row(0) -1
                row(1) 1
                status(-8) 0
                status(-3) 4
                lay(0) 0
                set(0, 5) 0
                status(-3) 5
                """);
        EdgeTest.edge("Number i of THE ROW. MISSING: 0; BEYOND: 0, and status() tells of it.", """
                row(0) 0
                row(-1) 0
                status(-2) 2
                status(-3) 0
                lay(60) 60
                row(-1) 0
                row(60) 0
                row(2147483647) 0
                row(-2147483648) 0
                status(-3) 4
                set(59, -3) 0
                row(59) -3
                row(0) 0
                status(-3) 4
                status(-2) 2
                """);
    }

    private static void copying() {
        String sentence = "n numbers of THE ROW, from place i on, come to its place j on (as they were): n. MISSING,"
                + " BELOW: n; COPY: i or j below 0, i + n or j + n above how many there are.";
        String six = """
                lay(6) 6
                set(0, 10) 0
                set(1, 11) 0
                set(2, 12) 0
                set(3, 13) 0
                set(4, 14) 0
                set(5, 15) 0
                """;
        EdgeTest.edge(sentence, """
                copy(0, 0, 0) -2
                copy(0, 0, -1) -2            # MISSING is ahead of BELOW
                """ + six + """
                copy(0, 0, -1) -4
                copy(-1, 9, -1) -4           # BELOW is ahead of COPY
                copy(0, 0, -2147483648) -4
                copy(-1, 0, 1) -6
                copy(0, -1, 1) -6
                copy(-1, 0, 0) -6
                copy(0, -1, 0) -6
                copy(0, 0, 7) -6
                copy(1, 0, 6) -6
                copy(0, 1, 6) -6
                copy(6, 0, 1) -6
                copy(0, 6, 1) -6
                copy(7, 0, 0) -6
                copy(0, 7, 0) -6
                copy(2147483647, 0, 1) -6
                copy(0, 2147483647, 1) -6
                copy(2147483647, 0, 2147483647) -6
                copy(0, 0, 2147483647) -6
                copy(-2147483648, 0, 1) -6
                status(-6) 16
                status(-4) 3
                status(-2) 2
                row(0) 10
                row(5) 15
                copy(6, 0, 0) 0
                copy(0, 6, 0) 0
                copy(6, 6, 0) 0
                copy(0, 0, 0) 0
                copy(0, 0, 6) 6
                row(0) 10
                row(5) 15
                copy(5, 0, 1) 1
                row(0) 15
                copy(1, 5, 1) 1
                row(5) 11
                """);
        EdgeTest.edge(sentence, six + """
                copy(0, 1, 5) 5              # they overlap: as they were
                row(0) 10
                row(1) 10
                row(2) 11
                row(5) 14
                """);
        EdgeTest.edge(sentence, six + """
                copy(1, 0, 5) 5
                row(0) 11
                row(1) 12
                row(4) 15
                row(5) 15
                copy(0, 3, 3) 3
                row(2) 13
                row(3) 11
                row(5) 13
                """);
        EdgeTest.edge(sentence, """
                lay(0) 0
                copy(0, 0, 0) 0
                copy(0, 0, 1) -6
                copy(1, 0, 0) -6
                lay(60) 60
                set(0, 4) 0
                copy(0, 30, 30) 30
                copy(0, 31, 30) -6
                copy(0, 59, 1) 1
                row(59) 4
                row(30) 4
                """);
    }

    private static void status() {
        EdgeTest.edge("How many calls were refused by an answer -2 .. -8 (of those that tell 0 by what they tell)."
                + " NO: another number.", """
                status(-2) 0
                status(-8) 0
                status(-1) -7
                status(0) -7
                status(-9) -7
                status(2147483647) -7
                status(-2147483648) -7
                status(-7) 5                 # these are refused, too
                status(-7) 5
                back() -2
                status(-2) 1
                look(9, 0) -3
                status(-3) 1
                lay(-1) -4
                status(-4) 1
                house(2, 0) -5
                status(-5) 1
                lay(0) 0
                copy(0, 0, 1) -6
                status(-6) 1
                7 x town() ?
                town() -8
                status(-8) 1
                set(0, 0) 0
                tell(0, 52, 0) 0
                says(9, 0) 0
                row(0) 0
                status(-3) 5
                tell(0, 0, 999) 0
                status(-7) 6
                says(1, -1) 0
                status(-2) 2
                tear() 1
                row(0) 0
                set(0, 0) 0
                status(-2) 4
                house(0, 0) 1
                house(0, 0) 2
                promise(1, 2, 5, 5) 0
                says(0, 0) 0
                status(-5) 2
                text(0, 9) -10               # a fault is none of these
                far(0, 1) -1
                status(-2) 4
                status(-3) 5
                status(-4) 1
                status(-5) 2
                status(-6) 1
                status(-7) 6
                status(-8) 1
                """);
    }

    private static void calls() {
        EdgeTest.edge("An object is used for at most 512 calls after it has been made", """
                house(0, 0) 1
                509 x count(2) 2
                status(-2) 0
                status(-9) -7
                """);
    }
}
