import java.util.ArrayList;
import java.util.HashMap;
import java.util.List;
import java.util.Map;

/**
 * The document once more, written straight from its words with the Java library and without a look
 * at speed: what ModelTest holds the program against. Nothing of the program is used here.
 */
final class Model {
    static final int NONE = -1;
    static final int MISSING = -2;
    static final int BEYOND = -3;
    static final int BELOW = -4;
    static final int KIND = -5;
    static final int COPY = -6;
    static final int NO = -7;
    static final int FULL = -8;

    static final class House {
        int kind;
        int town;
        int gold;
        int min;
        int banker;
        int bold = 9;
        int care;
        int[] down;

        House twin() {
            House h = new House();
            h.kind = kind;
            h.town = town;
            h.gold = gold;
            h.min = min;
            h.banker = banker;
            h.bold = bold;
            h.care = care;
            h.down = down == null ? null : down.clone();
            return h;
        }
    }

    static final class Note {
        int number;
        int copy;
        int holder;
        List<Integer> trail = new ArrayList<>();

        Note twin() {
            Note n = new Note();
            n.number = number;
            n.copy = copy;
            n.holder = holder;
            n.trail = new ArrayList<>(trail);
            return n;
        }

        void goesTo(int house) {
            holder = house;
            trail.add(house);
        }
    }

    static final class Paper {
        int kind;
        int sum;
        int debtor;
        int holder;
        int due = NONE;
        int state;
        List<Integer> names = new ArrayList<>();
        boolean inPledge;
        int bill = NONE;
        int asked = NONE;
        boolean byTrade;
        int made;

        Paper twin() {
            Paper p = new Paper();
            p.kind = kind;
            p.sum = sum;
            p.debtor = debtor;
            p.holder = holder;
            p.due = due;
            p.state = state;
            p.names = new ArrayList<>(names);
            p.inPledge = inPledge;
            p.bill = bill;
            p.asked = asked;
            p.byTrade = byTrade;
            p.made = made;
            return p;
        }
    }

    interface Expr {
        int at(Map<String, Integer> facts);
    }

    static final class Text {
        String key;
        int from;
        int to;
        Expr meaning;
        Expr condition;
    }

    static final class State {
        int day;
        int towns = 1;
        List<int[]> roads = new ArrayList<>();
        List<House> houses = new ArrayList<>();
        int[] numbers = new int[300];
        Note[] lastIn = new Note[300];
        List<Note> notes = new ArrayList<>();
        List<int[]> found = new ArrayList<>();
        Paper[] papers = new Paper[60];
        List<int[]> trades = new ArrayList<>();
        int[][] seasons = new int[2][52];
        List<Text> texts = new ArrayList<>();
        List<int[]> sheets = new ArrayList<>();
        int rate = 5;
        int flow;
        int refused;
        int stopped = NONE;

        State twin() {
            State s = new State();
            s.day = day;
            s.towns = towns;
            for (int[] r : roads) {
                s.roads.add(r.clone());
            }
            for (House h : houses) {
                s.houses.add(h.twin());
            }
            s.numbers = numbers.clone();
            Map<Note, Note> twins = new HashMap<>();
            for (Note n : notes) {
                Note t = n.twin();
                twins.put(n, t);
                s.notes.add(t);
            }
            for (int i = 0; i < 300; i++) {
                s.lastIn[i] = lastIn[i] == null ? null : twins.get(lastIn[i]);
            }
            for (int[] f : found) {
                s.found.add(f.clone());
            }
            for (int i = 0; i < 60; i++) {
                s.papers[i] = papers[i] == null ? null : papers[i].twin();
            }
            for (int[] t : trades) {
                s.trades.add(t.clone());
            }
            s.seasons = new int[][] {seasons[0].clone(), seasons[1].clone()};
            s.texts = new ArrayList<>(texts);
            for (int[] t : sheets) {
                s.sheets.add(t.clone());
            }
            s.rate = rate;
            s.flow = flow;
            s.refused = refused;
            s.stopped = stopped;
            return s;
        }
    }

    State s = new State();
    State image;
    int[] row;
    List<Integer> tape = new ArrayList<>();
    int[] refusals = new int[9];
    boolean wasRefused;

    Model() {
        House bank = new House();
        bank.kind = 2;
        bank.banker = NONE;
        s.houses.add(bank);
        for (int[] season : s.seasons) {
            java.util.Arrays.fill(season, NONE);
        }
    }

    int no(int answer) {
        refusals[-answer]++;
        wasRefused = true;
        return answer;
    }

    int zero(int reason) {
        refusals[-reason]++;
        wasRefused = true;
        return 0;
    }

    // ---- what the words mean

    boolean town(int t) {
        return t >= 0 && t < s.towns;
    }

    boolean house(int h) {
        return h >= 0 && h < s.houses.size();
    }

    boolean up(int h) {
        return s.houses.get(h).down == null;
    }

    boolean paper(int p) {
        return p >= 0 && p < 60 && s.papers[p] != null;
    }

    int distance(int a, int b) {
        int[] d = new int[8];
        java.util.Arrays.fill(d, 1 << 20);
        d[a] = 0;
        for (int turn = 0; turn < 8; turn++) {
            for (int[] r : s.roads) {
                d[r[1]] = Math.min(d[r[1]], d[r[0]] + r[2]);
                d[r[0]] = Math.min(d[r[0]], d[r[1]] + r[2]);
            }
        }
        return d[b] >= 1 << 20 ? NONE : d[b];
    }

    int distanceOfHouses(int a, int b) {
        return distance(s.houses.get(a).town, s.houses.get(b).town);
    }

    List<Note> holds(int h) {
        List<Note> all = new ArrayList<>();
        if (h != 0) {
            for (Note n : s.notes) {
                if (n.holder == h) {
                    all.add(n);
                }
            }
            all.sort((x, y) -> x.number != y.number ? x.number - y.number : x.copy - y.copy);
        }
        return all;
    }

    List<Note> forgedOf(int h) {
        List<Note> bad = new ArrayList<>();
        Note before = null;
        for (Note n : holds(h)) {
            if (s.numbers[n.number] != 1 || (before != null && before.number == n.number)) {
                bad.add(n);
            }
            before = n;
        }
        return bad;
    }

    int coin(int h) {
        return s.houses.get(h).gold + 10 * holds(h).size();
    }

    int countNumbers(int state) {
        int n = 0;
        for (int x : s.numbers) {
            n += x == state ? 1 : 0;
        }
        return n;
    }

    int out() {
        return 10 * countNumbers(1);
    }

    int reserve() {
        int out = out();
        return out == 0 ? 999 : (int) Math.min(999L, s.houses.get(0).gold * 100L / out);
    }

    boolean can(int from, int to, int sum) {
        if (from == to) {
            return true;
        }
        int gold = s.houses.get(from).gold;
        if (from != 0) {
            int n = holds(from).size();
            if (to == 0) {
                n -= forgedOf(from).size();
            }
            return gold >= sum - 10 * Math.min(n, sum / 10);
        }
        int n = sum / 10;
        if (gold < sum % 10) {
            return false;
        }
        if (countNumbers(2) + countNumbers(0) < n) {
            return false;
        }
        int fresh = Math.max(0, n - countNumbers(2));
        if (s.notes.size() + fresh > 400) {
            return false;
        }
        return n == 0 || law("lift", null) != 0 || out() + 10 * n <= law("out", null);
    }

    void find(int h) {
        for (Note n : forgedOf(h)) {
            n.holder = NONE;
            s.found.add(new int[] {n.number, h, s.day});
        }
    }

    void comeIn(Note n) {
        s.numbers[n.number] = 2;
        s.lastIn[n.number] = n;
        n.goesTo(0);
    }

    void hand(int from, int to, int sum) {
        if (from == to) {
            return;
        }
        int n = sum / 10;
        if (from == 0) {
            issue(to, n);
        } else {
            if (to == 0) {
                find(from);
            }
            List<Note> mine = holds(from);
            n = Math.min(n, mine.size());
            for (Note note : mine.subList(0, n)) {
                if (to == 0) {
                    comeIn(note);
                } else {
                    note.goesTo(to);
                }
            }
        }
        s.houses.get(from).gold -= sum - 10 * n;
        s.houses.get(to).gold += sum - 10 * n;
    }

    void issue(int to, int n) {
        List<Integer> numbers = new ArrayList<>();
        for (int state : new int[] {2, 0}) {
            for (int i = 0; i < 300; i++) {
                if (s.numbers[i] == state && numbers.size() < n) {
                    numbers.add(i);
                }
            }
        }
        for (int i : numbers) {
            Note note = s.lastIn[i];
            if (s.numbers[i] == 0) {
                note = new Note();
                note.number = i;
                note.goesTo(0);
                s.notes.add(note);
            }
            s.numbers[i] = 1;
            note.goesTo(to);
        }
    }

    int presents(int h, int n) {
        find(h);
        int came = 0;
        for (Note note : holds(h)) {
            if (came == n) {
                break;
            }
            if (s.houses.get(0).gold < 10) {
                s.stopped = s.day;
                break;
            }
            s.houses.get(0).gold -= 10;
            s.houses.get(h).gold += 10;
            comeIn(note);
            came++;
        }
        return came;
    }

    Map<String, Integer> facts(Paper bill) {
        Map<String, Integer> f = new HashMap<>();
        f.put("gold", s.houses.get(0).gold);
        f.put("notes", out());
        f.put("reserve", reserve());
        f.put("week", s.day / 7);
        f.put("day", s.day);
        f.put("price", s.rate);
        f.put("sum", bill == null ? 0 : bill.sum);
        f.put("days", bill == null ? 0 : bill.due - s.day);
        f.put("names", bill == null ? 0 : bill.names.size());
        f.put("town", bill == null ? 0 : s.houses.get(bill.debtor).town);
        return f;
    }

    int whichText(String key, Paper bill) {
        int which = NONE;
        Map<String, Integer> f = facts(bill);
        for (int i = 0; i < s.texts.size(); i++) {
            Text t = s.texts.get(i);
            if (t.key.equals(key) && t.from <= s.day && s.day < t.to
                    && (t.condition == null || t.condition.at(f) != 0)) {
                which = i;
            }
        }
        return which;
    }

    int law(String key, Paper bill) {
        int which = whichText(key, bill);
        if (which != NONE) {
            return s.texts.get(which).meaning.at(facts(bill));
        }
        return key.equals("out") ? s.houses.get(0).gold
                : key.equals("buy") ? 1 : key.equals("show") ? 63 : 0;
    }

    int free() {
        for (int i = 0; i < 60; i++) {
            if (s.papers[i] == null) {
                return i;
            }
        }
        return NONE;
    }

    int open(int kind, int debtor, int holder, int sum, int due) {
        Paper p = new Paper();
        p.kind = kind;
        p.debtor = debtor;
        p.holder = holder;
        p.sum = sum;
        p.due = due;
        if (kind == 1) {
            p.names.add(debtor);
            p.names.add(holder);
        }
        int at = free();
        s.papers[at] = p;
        return at;
    }

    void goesDown(int h, int paper, int how) {
        s.houses.get(h).down = new int[] {s.day, paper, s.papers[paper].holder, how};
        for (Paper p : s.papers) {
            if (p != null && p.debtor == h && p.kind != 1) {
                p.state = 2;
                if (p.kind == 3 && paper(p.bill)) {
                    s.papers[p.bill].inPledge = false;
                }
            }
        }
    }

    int priceOf(Paper p, int rate) {
        return p.sum - p.sum * rate * (p.due - s.day) / 36000;
    }

    boolean maySell(Paper p) {
        return p.kind == 1 && p.state == 0 && p.due > s.day && !p.inPledge && p.names.size() <= 5;
    }

    int offerIt(Paper p) {
        int seller = p.holder;
        int buyer = s.houses.get(seller).banker;
        int price = priceOf(p, buyer == 0 ? s.rate : s.rate + 1);
        boolean buys = buyer == 0
                ? law("buy", p) != 0 && can(0, seller, price)
                : up(buyer) && coin(buyer) - price >= s.houses.get(buyer).min
                        && can(buyer, seller, price);
        if (!buys) {
            s.refused += buyer == 0 ? 1 : 0;
            return 0;
        }
        hand(buyer, seller, price);
        if (p.names.get(p.names.size() - 1) != seller) {
            p.names.add(seller);
        }
        p.holder = buyer;
        return price;
    }

    int askedName(Paper p) {
        for (int i = p.names.size() - 1; i >= 0; i--) {
            if (p.names.get(i) != p.holder && p.names.get(i) != p.debtor) {
                return i;
            }
        }
        return NONE;
    }

    void nextName(Paper p) {
        int i = askedName(p);
        if (i == NONE) {
            p.state = 2;
            p.asked = NONE;
            return;
        }
        int d = distanceOfHouses(p.names.get(i), p.holder);
        p.asked = s.day + (d == NONE ? 30 : d == 0 ? 1 : d);
    }

    void strike(Paper p, int from) {
        p.names = new ArrayList<>(p.names.subList(0, from));
    }

    boolean askIt(int number) {
        Paper p = s.papers[number];
        if (can(p.debtor, p.holder, p.sum)) {
            hand(p.debtor, p.holder, p.sum);
            s.papers[number] = null;
            return true;
        }
        goesDown(p.debtor, number, 2);
        return false;
    }

    int failuresHeard(int h, int day) {
        int n = 0;
        for (House other : s.houses) {
            if (other.down != null && other.down[0] >= day - 29 && other.down[0] <= day) {
                int d = distance(other.town, s.houses.get(h).town);
                n += d != NONE && other.down[0] + d <= day ? 1 : 0;
            }
        }
        return n;
    }

    int sheetHeard(int h, int day) {
        int d = distance(0, s.houses.get(h).town);
        int latest = NONE;
        for (int w = 0; w < s.sheets.size(); w++) {
            if (d != NONE && 7 * w + 6 + d <= day) {
                latest = w;
            }
        }
        return latest;
    }

    int reserveHeard(int h, int day) {
        int w = sheetHeard(h, day);
        return w == NONE ? NONE : s.sheets.get(w)[5];
    }

    int season(int which, int week) {
        for (int back = 0; back < 52; back++) {
            int v = s.seasons[which][((week % 52) - back + 52) % 52];
            if (v != NONE) {
                return v;
            }
        }
        return which == 0 ? 100 : 5;
    }

    void aDay(boolean ruled) {
        int d = s.day;
        if (d % 7 == 0) {
            for (int[] t : s.trades) {
                int sum = t[2] * (100 - 2 * s.rate) / 100;
                if (t[4] == 1 && up(t[0]) && up(t[1]) && free() != NONE && sum != 0) {
                    s.papers[open(1, t[0], t[1], sum, d + t[3])].byTrade = true;
                }
            }
        }
        for (int i = 0; i < 60; i++) {
            Paper p = s.papers[i];
            if (p != null && p.state == 0 && p.due == d) {
                fallsDue(i, p);
            }
        }
        for (int i = 0; i < 60; i++) {
            Paper p = s.papers[i];
            if (p != null && p.state == 1 && p.asked == d) {
                int at = askedName(p);
                int name = p.names.get(at);
                strike(p, at);
                if (up(name) && can(name, p.holder, p.sum)) {
                    hand(name, p.holder, p.sum);
                    p.holder = name;
                } else if (up(name)) {
                    goesDown(name, i, 1);
                }
                nextName(p);
            }
        }
        selling();
        running();
        if (d % 7 == 6) {
            endOfWeek(ruled);
        }
        s.day = d + 1;
    }

    void fallsDue(int i, Paper p) {
        if (p.byTrade && up(p.debtor)) {
            s.houses.get(p.debtor).gold += p.sum * season(0, s.day / 7) / 100;
        }
        if (p.holder == p.debtor || (up(p.debtor) && can(p.debtor, p.holder, p.sum))) {
            hand(p.debtor, p.holder, p.sum);
            if (p.kind == 3) {
                s.papers[p.bill].holder = p.debtor;
                s.papers[p.bill].inPledge = false;
            }
            s.papers[i] = null;
            return;
        }
        if (up(p.debtor)) {
            goesDown(p.debtor, i, 0);
        }
        if (p.kind == 1) {
            p.state = 1;
            for (int k = 1; k < p.names.size(); k++) {
                if (p.names.get(k) == p.holder) {
                    strike(p, k);
                }
            }
            nextName(p);
        }
    }

    void selling() {
        for (int h = 1; h < s.houses.size(); h++) {
            if (!up(h)) {
                continue;
            }
            List<Paper> refusedNow = new ArrayList<>();
            while (coin(h) < s.houses.get(h).min) {
                Paper best = null;
                for (Paper p : s.papers) {
                    if (p != null && p.holder == h && maySell(p) && !refusedNow.contains(p)
                            && (best == null || p.due < best.due)) {
                        best = p;
                    }
                }
                if (best == null) {
                    break;
                }
                if (offerIt(best) == 0) {
                    refusedNow.add(best);
                }
            }
        }
    }

    void running() {
        for (int h = 1; h < s.houses.size(); h++) {
            if (!up(h)) {
                continue;
            }
            if (failuresHeard(h, s.day) > s.houses.get(h).bold) {
                for (int i = 0; i < 60; i++) {
                    Paper p = s.papers[i];
                    if (p != null && p.kind == 2 && p.state == 0 && p.holder == h) {
                        askIt(i);
                    }
                }
            }
            int r = reserveHeard(h, s.day);
            if (r != NONE && r < s.houses.get(h).care && s.stopped == NONE) {
                presents(h, 1000);
            }
        }
    }

    void endOfWeek(boolean ruled) {
        House bank = s.houses.get(0);
        int x = s.flow * (s.rate - season(1, s.day / 7));
        if (x >= 0) {
            bank.gold += x;
        } else if (bank.gold >= -x) {
            bank.gold -= -x;
        } else {
            bank.gold = 0;
            if (s.stopped == NONE) {
                s.stopped = s.day;
            }
        }
        int[] sheet = new int[6];
        sheet[0] = bank.gold;
        sheet[1] = out();
        int hide = Math.max(0, law("hide", null));
        for (Paper p : s.papers) {
            if (p != null && p.state == 0) {
                if (p.kind == 1 && p.holder == 0 && !p.inPledge) {
                    sheet[2] += p.sum;
                }
                if (p.kind == 3) {
                    sheet[s.day - p.made <= hide ? 2 : 3] += p.sum;
                }
            }
        }
        sheet[4] = s.rate;
        sheet[5] = reserve();
        int show = law("show", null);
        for (int i = 0; i < 6; i++) {
            if ((show & (1 << i)) == 0) {
                sheet[i] = NONE;
            }
        }
        s.sheets.add(sheet);
        if (ruled && whichText("rate", null) != NONE) {
            s.rate = Math.min(20, Math.max(0, law("rate", null)));
        }
    }

    // ---- claims: all together anew and anew, as the document has it

    int[] claimGets = new int[60];
    int[] houseAssets = new int[16];

    void workClaims() {
        int[] gets = new int[60];
        int[] assets = new int[16];
        boolean changes = true;
        while (changes) {
            assets = assetsBy(gets);
            int[] next = getsBy(assets);
            changes = !java.util.Arrays.equals(next, gets);
            gets = next;
        }
        claimGets = gets;
        houseAssets = assets;
    }

    int[] assetsBy(int[] gets) {
        int[] assets = new int[16];
        for (int h = 0; h < s.houses.size(); h++) {
            if (!up(h)) {
                assets[h] = coin(h);
                for (int i = 0; i < 60; i++) {
                    if (s.papers[i] != null && s.papers[i].holder == h) {
                        assets[h] += up(s.papers[i].debtor) ? s.papers[i].sum : gets[i];
                    }
                }
            }
        }
        return assets;
    }

    int[] getsBy(int[] assets) {
        int[] gets = new int[60];
        for (int h = 0; h < s.houses.size(); h++) {
            if (up(h)) {
                continue;
            }
            long left = assets[h];
            for (boolean deposits : new boolean[] {true, false}) {
                long all = 0;
                for (Paper p : s.papers) {
                    all += p != null && p.debtor == h && (p.kind == 2) == deposits ? p.sum : 0;
                }
                for (int i = 0; i < 60; i++) {
                    Paper p = s.papers[i];
                    if (p != null && p.debtor == h && (p.kind == 2) == deposits) {
                        gets[i] = left >= all ? p.sum : (int) (p.sum * left / all);
                    }
                }
                left = left >= all ? left - all : 0;
                if (deposits && assets[h] < all) {
                    break;
                }
            }
        }
        return gets;
    }

    // ---- tries

    int[] tryRow(int[] rates) {
        State before = s;
        s = s.twin();
        int[] r = new int[rates.length * 4];
        for (int w = 0; w < rates.length; w++) {
            s.rate = rates[w];
            for (int i = 0; i < 7; i++) {
                aDay(false);
            }
            r[4 * w] = rates[w];
            r[4 * w + 1] = s.houses.get(0).gold;
            r[4 * w + 2] = out();
            r[4 * w + 3] = downs();
        }
        tried = s;
        s = before;
        return r;
    }

    State tried;

    int downs() {
        int n = 0;
        for (House h : s.houses) {
            n += h.down != null ? 1 : 0;
        }
        return n;
    }

    static int[] digits(int rates, int n) {
        long x = rates;
        if (x < 0) {
            return null;
        }
        int[] d = new int[n];
        for (int i = 0; i < n; i++) {
            d[i] = (int) (x % 32);
            x /= 32;
            if (d[i] > 20) {
                return null;
            }
        }
        return x == 0 ? d : null;
    }
}
