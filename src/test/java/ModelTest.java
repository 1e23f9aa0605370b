import java.util.ArrayList;
import java.util.List;
import java.util.Random;

/**
 * Runs of calls drawn by chance (the same ones each time), answered by the program and by the Model;
 * each answer is compared, and at the end of a run all that can be asked. A second object of the
 * program gets only the calls that aren't refused: it must answer likewise (but for status()).
 * Arguments: how many runs, and the first one's number.
 */
public final class ModelTest {
    private static final int CALLS = 512;
    private final Random chance;
    private final Program program = new Program();
    private final Program calm = new Program();
    private final ModelCalls model = new ModelCalls();
    private final List<String> history = new ArrayList<>();
    private final int style;
    private int wrong;
    private int plans;

    private ModelTest(long seed) {
        chance = new Random(seed);
        style = chance.nextInt(6);
    }

    public static void main(String[] args) {
        int runs = args.length > 0 ? Integer.parseInt(args[0]) : 300;
        int first = args.length > 1 ? Integer.parseInt(args[1]) : 1;
        int bad = 0;
        for (int i = first; i < first + runs && bad < 3; i++) {
            bad += new ModelTest(i).run(i) ? 0 : 1;
        }
        System.out.println(bad == 0 ? runs + " runs answered as the model" : bad + " runs differ");
        if (bad != 0) {
            System.exit(1);
        }
    }

    private boolean run(int number) {
        begin();
        while (history.size() < CALLS && wrong == 0) {
            step();
        }
        if (wrong == 0) {
            survey();
        }
        if (wrong != 0) {
            System.out.println("run " + number + " differs:");
            int from = Math.max(0, history.size() - 60);
            for (String line : history.subList(from, history.size())) {
                System.out.println("  " + line);
            }
        }
        return wrong == 0;
    }

    private int call(String name, int... a) {
        int got = program.call(name, a);
        model.m.wasRefused = false;
        int due = model.call(name, a);
        history.add(Program.told(name, a) + " " + got + (got == due ? "" : ", due is " + due));
        wrong += got == due ? 0 : 1;
        boolean isFault = name.equals("text") && due <= -10;
        if (!model.m.wasRefused && !isFault && !name.equals("status")) {
            int other = calm.call(name, a);
            wrong += other == due ? 0 : 1;
            if (other != due) {
                history.add("  without the refused calls: " + other);
            }
        }
        return due;
    }

    private int upTo(int n) {
        return chance.nextInt(n + 1);
    }

    private boolean oneOf(int n) {
        return chance.nextInt(n) == 0;
    }

    private int pick(int... from) {
        return from[chance.nextInt(from.length)];
    }

    private int odd() {
        return pick(-1, -2, -3, -8, 0, 1, 2, 3, 7, 8, 9, 15, 16, 52, 59, 60, 61, 300, 399, 400, 401, 1000,
                9999, 10000, 10001, Integer.MAX_VALUE, Integer.MIN_VALUE, 700, 701);
    }

    private int house() {
        return oneOf(25) ? odd() : chance.nextInt(model.m.s.houses.size());
    }

    private int otherHouse() {
        return oneOf(25) ? odd() : 1 + chance.nextInt(Math.max(1, model.m.s.houses.size() - 1));
    }

    private int ofKind(int kind) {
        for (int i = 0; i < 20; i++) {
            int h = chance.nextInt(model.m.s.houses.size());
            if (model.m.s.houses.get(h).kind == kind) {
                return h;
            }
        }
        return house();
    }

    private int town() {
        return oneOf(25) ? odd() : chance.nextInt(model.m.s.towns);
    }

    private int paper(int kind) {
        if (oneOf(25)) {
            return odd();
        }
        for (int i = 0; i < 200; i++) {
            int p = chance.nextInt(60);
            if (model.m.s.papers[p] != null && (kind < 0 || model.m.s.papers[p].kind == kind)) {
                return p;
            }
        }
        return chance.nextInt(60);
    }

    private int sum() {
        return oneOf(30) ? odd() : oneOf(10) ? 1 + chance.nextInt(9999) : 1 + chance.nextInt(pick(20, 150, 600));
    }

    private int days() {
        return oneOf(30) ? odd() : 1 + chance.nextInt(pick(3, 15, 60));
    }

    private int weeks() {
        return oneOf(20) ? odd() : oneOf(3) && plans++ < 2 ? pick(3, 4) : pick(1, 1, 2);
    }

    private void begin() {
        int towns = chance.nextInt(6);
        for (int i = 0; i < towns; i++) {
            call("town");
        }
        for (int i = 0; i < 2 * towns; i++) {
            call("road", town(), town(), 1 + chance.nextInt(pick(3, 12)));
        }
        int houses = 3 + chance.nextInt(style == 0 ? 4 : 12);
        for (int i = 0; i < houses; i++) {
            call("house", oneOf(3) ? 1 : 0, town());
        }
        call("gold", 0, chance.nextInt(style == 1 ? 200 : 4000));
        for (int h = 1; h < model.m.s.houses.size(); h++) {
            call("gold", h, chance.nextInt(style == 2 ? 50 : 400));
            if (oneOf(2)) {
                call("mind", h, chance.nextInt(500), ofKind(model.m.s.houses.get(h).kind + 1));
            }
            if (oneOf(2)) {
                call("bold", h, 1000 * chance.nextInt(3) + (oneOf(2) ? 0 : chance.nextInt(1000)));
            }
        }
        if (style >= 3) {
            for (int i = 0; i < 4; i++) {
                call("trade", ofKind(0), ofKind(0), 1 + chance.nextInt(400), 1 + chance.nextInt(20));
            }
            call("flow", chance.nextInt(60));
        }
    }

    private void step() {
        switch (chance.nextInt(34)) {
            case 0: land(); break;
            case 1: call("gold", house(), oneOf(20) ? odd() : chance.nextInt(300)); break;
            case 2: call("mind", otherHouse(), chance.nextInt(600), ofKind(pick(1, 2))); break;
            case 3: call("bold", otherHouse(), 1000 * chance.nextInt(4) + chance.nextInt(1000)); break;
            case 4: call("look", house(), oneOf(20) ? odd() : upTo(10)); break;
            case 5: call("down", house(), oneOf(20) ? odd() : upTo(4)); break;
            case 6: case 7: call("give", 0, otherHouse(), sum()); break;
            case 8: call("give", house(), house(), sum()); break;
            case 9: call("present", otherHouse(), oneOf(9) ? odd() : 1 + chance.nextInt(30)); break;
            case 10: note(); break;
            case 11: call("promise", otherHouse(), otherHouse(), sum(), days()); break;
            case 12: case 13: case 14:
                call("bill", otherHouse(), ofKind(0), sum(), days());
                break;
            case 15: case 16: call("deposit", otherHouse(), ofKind(1), sum()); break;
            case 17: call("help", paper(1), days()); break;
            case 18: call("sell", paper(1)); break;
            case 19: call("ask", paper(2)); break;
            case 20: paperCall(); break;
            case 21: trade(); break;
            case 22: case 23: text(); break;
            case 24: call("says", oneOf(20) ? odd() : upTo(7), oneOf(2) ? -1 : paper(1)); break;
            case 25: call("why", oneOf(20) ? odd() : upTo(7), oneOf(2) ? -1 : paper(1)); break;
            case 26: call("run", oneOf(30) ? odd() : 1 + chance.nextInt(pick(2, 7, 20))); break;
            case 27: know(); break;
            case 28: call("count", oneOf(20) ? odd() : upTo(18)); break;
            case 29: tries(); break;
            case 30: keep(); break;
            case 31: rows(); break;
            case 32: call("status", oneOf(9) ? odd() : -1 - upTo(8)); break;
            default: call("rate", oneOf(20) ? odd() : upTo(20)); break;
        }
    }

    private void land() {
        switch (chance.nextInt(4)) {
            case 0: call("town"); break;
            case 1: call("road", town(), town(), oneOf(9) ? odd() : 1 + upTo(29)); break;
            case 2: call("far", town(), town()); break;
            default: call("house", pick(0, 0, 1, 2, -1), town()); break;
        }
    }

    private int someNumber() {
        return oneOf(20) ? odd() : oneOf(3) ? upTo(299) : upTo(20);
    }

    private void note() {
        switch (chance.nextInt(6)) {
            case 0: call("burn", someNumber()); break;
            case 1: case 2: call("forge", otherHouse(), someNumber()); break;
            case 3: call("copyAt", someNumber(), oneOf(20) ? odd() : upTo(2)); break;
            case 4: call("trail", someNumber(), upTo(2), oneOf(20) ? odd() : upTo(8)); break;
            default: call("found", oneOf(20) ? odd() : upTo(12), oneOf(20) ? odd() : upTo(3)); break;
        }
    }

    private void paperCall() {
        switch (chance.nextInt(6)) {
            case 0: case 1: call("of", paper(-1), oneOf(20) ? odd() : upTo(11)); break;
            case 2: call("name", paper(oneOf(5) ? -1 : 1), oneOf(9) ? odd() : upTo(3)); break;
            case 3: call("price", paper(oneOf(5) ? -1 : 1), oneOf(9) ? odd() : upTo(30)); break;
            case 4: call("gets", paper(-1)); break;
            default: call("assets", house()); break;
        }
    }

    private void trade() {
        switch (chance.nextInt(6)) {
            case 0: call("trade", ofKind(0), ofKind(0), sum(), days()); break;
            case 1: call("goesOn", oneOf(9) ? odd() : upTo(8), oneOf(9) ? odd() : upTo(1)); break;
            case 2: case 3: {
                int which = oneOf(20) ? odd() : upTo(1);
                int v = oneOf(9) ? odd() : upTo(which == 1 ? 20 : 200);
                call("tell", which, oneOf(20) ? odd() : upTo(51), v);
                break;
            }
            case 4: call("week", oneOf(20) ? odd() : upTo(1), oneOf(9) ? odd() : upTo(120)); break;
            default: call("flow", oneOf(9) ? odd() : upTo(100)); break;
        }
    }

    private void know() {
        if (oneOf(2)) {
            call("sheet", oneOf(20) ? odd() : upTo(model.m.s.day / 7), oneOf(20) ? odd() : upTo(6));
        } else {
            call("knew", house(), oneOf(20) ? odd() : upTo(3), oneOf(20) ? odd() : upTo(model.m.s.day));
        }
    }

    private int rates(int n) {
        int told = 0;
        for (int i = 0; i < n; i++) {
            told |= (oneOf(60) ? upTo(31) : upTo(20)) << (5 * i);
        }
        return oneOf(30) ? odd() : told;
    }

    private void tries() {
        int weeks = weeks();
        int told = rates(weeks < 1 || weeks > 4 ? 2 : weeks);
        switch (chance.nextInt(4)) {
            case 0: call("attempt", told, weeks, oneOf(20) ? odd() : upTo(4)); break;
            case 1: call("plan", rates(4), weeks); break;
            case 2:
                call("plan", rates(4), weeks);
                if (oneOf(2)) {
                    call("set", upTo(15), upTo(20));
                }
                call("judge");
                break;
            default: call("judge"); break;
        }
    }

    private void keep() {
        if (oneOf(2)) {
            call("image");
        } else if (oneOf(2)) {
            call("back");
        }
    }

    private void rows() {
        switch (chance.nextInt(7)) {
            case 0: call("lay", oneOf(9) ? odd() : pick(4, 8, 12, 16, upTo(60))); break;
            case 1: case 2: call("set", oneOf(9) ? odd() : upTo(16), oneOf(3) ? odd() : upTo(200)); break;
            case 3: call("row", oneOf(9) ? odd() : upTo(16)); break;
            case 4: call("copy", oneOf(9) ? odd() : upTo(8), oneOf(9) ? odd() : upTo(8),
                    oneOf(9) ? odd() : upTo(8)); break;
            case 5: call("read", oneOf(9) ? odd() : upTo(1)); break;
            default:
                if (oneOf(4)) {
                    call("tear");
                }
                break;
        }
    }

    private void text() {
        if (oneOf(6)) {
            call("wipe");
        }
        String s = oneOf(12) ? noise() : aText();
        if (oneOf(4)) {
            s = spoiled(s);
        }
        for (int at = 0; at < s.length(); at += 4) {
            int n = Math.min(4, s.length() - at);
            int bytes = chance.nextInt() << 8;
            for (int i = 0; i < n; i++) {
                bytes = (bytes << 8) | s.charAt(at + i);
            }
            call("feed", bytes, n);
        }
        int from = oneOf(2) ? 0 : Math.max(0, model.m.s.day - 5 + upTo(30));
        int answer = call("text", oneOf(30) ? odd() : from, oneOf(30) ? odd() : oneOf(2) ? 1000 : from + upTo(60));
        if (answer < 0) {
            call("wipe");
        }
        if (oneOf(30)) {
            call("feed", chance.nextInt(), odd());
        }
    }

    private String noise() {
        StringBuilder b = new StringBuilder();
        for (int i = upTo(14); i >= 0; i--) {
            b.append(oneOf(9) ? (char) upTo(255) : "out rate gold if 12 not ( ) - * / % = < > +".charAt(upTo(42)));
        }
        return b.toString();
    }

    private String spoiled(String s) {
        int at = chance.nextInt(s.length());
        if (oneOf(3)) {
            return s.substring(0, at);
        }
        String mid = oneOf(2) ? "" : new String[] {"(", ")", " ", "not ", "-", "A", "1", "=", "if"}[upTo(8)];
        return s.substring(0, at) + mid + s.substring(at + (oneOf(2) ? 1 : 0));
    }

    private String aText() {
        String[] keys = ModelCalls.KEYS;
        String key = keys[chance.nextInt(7)];
        String e = anE(upTo(3));
        if (key.equals("show") && oneOf(2)) {
            e = String.valueOf(upTo(63));
        }
        if (key.equals("rate") && oneOf(2)) {
            e = "reserve/" + (1 + upTo(99));
        }
        if (key.equals("lend") && oneOf(2)) {
            e = String.valueOf(upTo(120));
        }
        if (key.equals("out") && oneOf(2)) {
            e = (1 + upTo(3)) + "*gold";
        }
        String s = key + " " + e + (oneOf(3) ? " if " + anE(upTo(2)) : "");
        return s.length() > 120 ? s.substring(0, 120) : s;
    }

    private String anE(int depth) {
        if (depth == 0 || oneOf(6)) {
            return oneOf(2) ? String.valueOf(upTo(pick(3, 30, 99999)))
                    : ModelReader.NAMES.get(chance.nextInt(10));
        }
        switch (chance.nextInt(7)) {
            case 0: return "not " + anE(depth - 1);
            case 1: return "-" + anE(depth - 1);
            case 2: return "(" + anE(depth - 1) + ")";
            case 3: return anE(depth - 1) + pickWord(" or ", " and ") + anE(depth - 1);
            case 4: return anE(depth - 1) + pickWord("=", "<", ">") + anE(depth - 1);
            default: return anE(depth - 1) + pickWord("+", "-", "*", "/", "%", " * ") + anE(depth - 1);
        }
    }

    private String pickWord(String... from) {
        return from[chance.nextInt(from.length)];
    }

    private void survey() {
        for (int i = 0; i < 18; i++) {
            call("count", i);
        }
        for (int h = 0; h < model.m.s.houses.size(); h++) {
            for (int i = 0; i < 10; i++) {
                call("look", h, i);
                call("down", h, i);
            }
            call("assets", h);
            for (int d = 0; d < model.m.s.day; d += 3) {
                call("knew", h, d % 3, d);
                call("knew", h, (d + 1) % 3, d);
                call("knew", h, (d + 2) % 3, d);
            }
        }
        for (int p = 0; p < 60; p++) {
            for (int i = 0; i < 11; i++) {
                call("of", p, i);
                call("name", p, i);
            }
            call("gets", p);
        }
        for (int n = 0; n < 300 && wrong == 0; n++) {
            call("number", n);
            for (int c = 0; c < 3; c++) {
                call("copyAt", n, c);
                for (int i = 0; i < 8; i++) {
                    call("trail", n, c, i);
                }
            }
        }
        for (int w = 0; w <= model.m.s.day / 7; w++) {
            for (int i = 0; i < 6; i++) {
                call("sheet", w, i);
            }
        }
        for (int i = 0; i < 60; i++) {
            call("found", i, i % 3);
            call("week", 0, i);
            call("week", 1, i);
            call("row", i);
        }
        for (int i = -8; i < -1; i++) {
            call("status", i);
        }
    }
}
