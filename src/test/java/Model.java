import java.nio.charset.StandardCharsets;
import java.util.ArrayDeque;
import java.util.ArrayList;
import java.util.Arrays;
import java.util.List;
import java.util.NoSuchElementException;
import java.util.function.IntPredicate;
import java.util.function.ToIntBiFunction;
import java.util.regex.Matcher;
import java.util.regex.Pattern;

/**
 * The document once more, in another way: lists, patterns, trees of functions and trying everything out.
 * It shares nothing with the class, so that a slip in one of them shows where they differ.
 */
public final class Model {
    static final class Guest {
        int room;
        int wish;
        int doubt;
        boolean key;
        boolean here = true;

        Guest copy() {
            Guest g = new Guest();
            g.room = room;
            g.wish = wish;
            g.doubt = doubt;
            g.key = key;
            g.here = here;
            return g;
        }

        int risk() {
            return doubt >= 50 ? wish : wish / 2;
        }
    }

    interface Condition {
        boolean holds(State state, int guest);
    }

    record Rule(int turn, Condition condition) {
    }

    static final class State {
        List<Guest> guests = new ArrayList<>();
        boolean[][] hole = new boolean[8][8];
        int[] shift = {0, 3};
        int bath, kept, towers, bore, day, seen, texts;
        int masons = 1;
        int stones = 100;
        int seed = 1;
        List<Rule> law = null;
        List<int[]> log = new ArrayList<>();

        State copy() {
            State s = new State();
            for (Guest g : guests) s.guests.add(g.copy());
            for (int i = 0; i < 8; i++) s.hole[i] = hole[i].clone();
            s.shift = shift.clone();
            s.bath = bath;
            s.kept = kept;
            s.towers = towers;
            s.bore = bore;
            s.day = day;
            s.seen = seen;
            s.texts = texts;
            s.masons = masons;
            s.stones = stones;
            s.seed = seed;
            s.law = law;
            s.log = new ArrayList<>(log);
            return s;
        }

        boolean saturday(int calendar, int someDay) {
            return (someDay + shift[calendar]) % 7 == 6;
        }

        boolean sees(Guest g, int from, int room) {
            if (from == room || hole[from][room]) return true;
            int apart = Math.abs(from - room);
            return g.key && (apart == 1 || apart == 7);
        }

        boolean watches(int g, int room) {
            return guests.get(g).here && sees(guests.get(g), guests.get(g).room, room);
        }

        int turns(int g) {
            if (law == null) return 1;
            int sum = 0;
            for (Rule rule : law) if (rule.condition.holds(this, g)) sum += rule.turn;
            return sum;
        }

        int draw() {
            seed = seed * 1103515245 + 12345;
            return seed >> 16 & 0x7fff;
        }

        void day(boolean ahead) {
            for (int g = 0; g < guests.size(); g++) {
                Guest guest = guests.get(g);
                if (guest.here) guest.doubt = Math.min(99, Math.max(0, guest.doubt + turns(g)));
            }
            if (!ahead && saturday(kept, day)) {
                for (int g = 0; g < guests.size(); g++) {
                    if (watches(g, bath) && draw() % 10 < guests.get(g).risk()) {
                        seen++;
                        guests.get(g).doubt = 99;
                        log.add(0, new int[] {day, g, guests.get(g).room, bath});
                        if (log.size() > 60) log.remove(60);
                    }
                }
            }
            int more = stones < masons ? stones : masons;
            towers += more;
            if (towers > 9999) towers = 9999;
            stones -= more;
            if (!ahead && draw() % 100 < bore) {
                int room = draw() % 8;
                hole[room][room == 7 ? 0 : room + 1] = true;
            }
            if (day < 9999) day++;
        }

        State ahead(int n) {
            State s = copy();
            for (int i = 0; i < n; i++) s.day(true);
            return s;
        }

        int holes() {
            int n = 0;
            for (boolean[] row : hole) for (boolean there : row) if (there) n++;
            return n;
        }
    }

    static final class Wrong extends Exception {
        private static final long serialVersionUID = 1;
        final int at;

        Wrong(int at) {
            this.at = at;
        }
    }

    /** One text as tokens with their places, taken one by one. */
    static final class Text {
        final List<String> things = new ArrayList<>();
        final List<Integer> places = new ArrayList<>();
        final int length;
        int next = 0;

        Text(List<Integer> bytes) {
            byte[] raw = new byte[bytes.size()];
            for (int i = 0; i < raw.length; i++) raw[i] = (byte) (int) bytes.get(i);
            String text = new String(raw, StandardCharsets.ISO_8859_1);
            length = text.length();
            Matcher m = Pattern.compile("[a-z]+|[0-9]+|[^ ]", Pattern.DOTALL).matcher(text);
            while (m.find()) {
                things.add(m.group());
                places.add(m.start());
            }
        }

        String peek() {
            return next < things.size() ? things.get(next) : "";
        }

        Wrong wrong() {
            return new Wrong(next < things.size() ? places.get(next) : length);
        }

        boolean maybe(String thing) {
            if (!peek().equals(thing)) return false;
            next++;
            return true;
        }

        void must(String thing) throws Wrong {
            if (!maybe(thing)) throw wrong();
        }

        int number(IntPredicate fits) throws Wrong {
            if (!peek().matches("[0-9]{1,3}") || !fits.test(Integer.parseInt(peek()))) throw wrong();
            return Integer.parseInt(things.get(next++));
        }

        int number(int most) throws Wrong {
            return number(n -> n <= most);
        }
    }

    private final List<Integer> tape = new ArrayList<>();
    private State now = new State();
    private State kept = null;
    private final ArrayDeque<State> past = new ArrayDeque<>();
    private int fault = -1;

    private static void houseText(Text t, State s) throws Wrong {
        if (t.things.isEmpty()) return;
        for (int line = 1;; line++) {
            if (line > 14) throw t.wrong();
            houseLine(t, s);
            if (t.next == t.things.size()) return;
            t.must(";");
        }
    }

    private static void houseLine(Text t, State s) throws Wrong {
        if (t.peek().equals("guest") && s.guests.size() == 8) throw t.wrong();
        if (t.maybe("guest")) {
            Guest g = new Guest();
            t.must("wish");
            g.wish = t.number(10);
            t.must("at");
            g.room = t.number(7);
            if (t.maybe("doubt")) g.doubt = t.number(99);
            g.key = t.maybe("key");
            s.guests.add(g);
        } else if (t.maybe("hole")) {
            int from = t.number(7);
            s.hole[from][t.number(n -> n <= 7 && n != from)] = true;
        } else if (t.maybe("shift")) {
            int c = t.number(1);
            s.shift[c] = t.number(6);
        } else if (t.maybe("bath")) {
            s.bath = t.number(7);
        } else if (t.maybe("keep")) {
            s.kept = t.number(1);
        } else if (t.maybe("masons")) {
            s.masons = t.number(9);
        } else if (t.maybe("stones")) {
            s.stones = t.number(999);
        } else if (t.maybe("bore")) {
            s.bore = t.number(100);
        } else {
            t.must("day");
            s.day = t.number(999);
        }
    }

    private static List<Rule> lawText(Text t) throws Wrong {
        List<Rule> rules = new ArrayList<>();
        if (t.things.isEmpty()) return rules;
        while (true) {
            if (rules.size() == 12) throw t.wrong();
            boolean calm = t.maybe("calm");
            if (!calm) t.must("doubt");
            int n = t.number(30);
            Condition c = t.maybe("if") ? any(t, 0) : (s, g) -> true;
            rules.add(new Rule(calm ? -n : n, c));
            if (t.next == t.things.size()) return rules;
            t.must(";");
        }
    }

    private static Condition any(Text t, int deep) throws Wrong {
        Condition left = all(t, deep);
        if (!t.maybe("or")) return left;
        Condition right = any(t, deep);
        return (s, g) -> left.holds(s, g) || right.holds(s, g);
    }

    private static Condition all(Text t, int deep) throws Wrong {
        Condition left = atom(t, deep);
        if (!t.maybe("and")) return left;
        Condition right = all(t, deep);
        return (s, g) -> left.holds(s, g) && right.holds(s, g);
    }

    private static Condition atom(Text t, int deep) throws Wrong {
        if (deep == 6 && (t.peek().equals("(") || t.peek().equals("not"))) throw t.wrong();
        if (t.maybe("not")) {
            Condition c = atom(t, deep + 1);
            return (s, g) -> !c.holds(s, g);
        }
        if (t.maybe("(")) {
            Condition c = any(t, deep + 1);
            t.must(")");
            return c;
        }
        if (t.maybe("key")) return (s, g) -> s.guests.get(g).key;
        if (t.maybe("eve")) return (s, g) -> s.saturday(s.kept, s.day + 1);
        ToIntBiFunction<State, Integer> left = sum(t);
        if (t.maybe("<")) {
            ToIntBiFunction<State, Integer> right = sum(t);
            return (s, g) -> left.applyAsInt(s, g) < right.applyAsInt(s, g);
        }
        t.must(">");
        ToIntBiFunction<State, Integer> right = sum(t);
        return (s, g) -> left.applyAsInt(s, g) > right.applyAsInt(s, g);
    }

    private static ToIntBiFunction<State, Integer> sum(Text t) throws Wrong {
        ToIntBiFunction<State, Integer> part = part(t);
        if (!t.maybe("+")) return part;
        ToIntBiFunction<State, Integer> rest = sum(t);
        return (s, g) -> part.applyAsInt(s, g) + rest.applyAsInt(s, g);
    }

    private static ToIntBiFunction<State, Integer> part(Text t) throws Wrong {
        if (t.maybe("guest")) return (s, g) -> g;
        if (t.maybe("room")) return (s, g) -> s.guests.get(g).room;
        if (t.maybe("wish")) return (s, g) -> s.guests.get(g).wish;
        if (t.maybe("doubted")) return (s, g) -> s.guests.get(g).doubt;
        if (t.maybe("towers")) return (s, g) -> s.towers;
        if (t.maybe("week")) return (s, g) -> s.day / 7;
        if (t.maybe("holes")) {
            return (s, g) -> {
                int n = 0;
                for (boolean there : s.hole[s.guests.get(g).room]) if (there) n++;
                return n;
            };
        }
        int n = t.number(999);
        return (s, g) -> n;
    }

    private static void index(boolean fits) {
        if (!fits) throw new IndexOutOfBoundsException();
    }

    private static void legal(boolean fits) {
        if (!fits) throw new IllegalArgumentException();
    }

    private void guestMust(int g) {
        index(g >= 0 && g < now.guests.size());
    }

    private static void roomMust(int r) {
        index(r >= 0 && r <= 7);
    }

    private void act() {
        past.push(now.copy());
        if (past.size() > 12) past.removeLast();
    }

    private static int bits(int most, IntPredicate in) {
        int set = 0;
        for (int i = 0; i < most; i++) if (in.test(i)) set += 1 << i;
        return set;
    }

    public int feed(int a, int b, int c, int d, int e) {
        if (tape.size() > 380) return -1;
        for (int n : new int[] {a, b, c, d, e}) {
            tape.add(n >> 24 & 255);
            tape.add(n >> 16 & 255);
            tape.add(n >> 8 & 255);
            tape.add(n & 255);
        }
        return tape.size();
    }

    public boolean end(int n) {
        if (n < 0 || n > tape.size()) return false;
        while (tape.size() > n) tape.remove(tape.size() - 1);
        return true;
    }

    public int house() {
        Text t = new Text(tape);
        tape.clear();
        State s = now.copy();
        fault = -1;
        try {
            houseText(t, s);
        } catch (Wrong w) {
            fault = w.at;
            throw new IllegalArgumentException();
        }
        if (now.texts == 12) throw new UnsupportedOperationException();
        now = s;
        past.clear();
        return ++now.texts;
    }

    public int law() {
        Text t = new Text(tape);
        tape.clear();
        fault = -1;
        try {
            now.law = lawText(t);
        } catch (Wrong w) {
            fault = w.at;
            throw new IllegalArgumentException();
        }
        past.clear();
        return now.law.size();
    }

    public int fault() {
        return fault;
    }

    public int guest(int guest, int what) {
        guestMust(guest);
        Guest g = now.guests.get(guest);
        switch (what) {
            case 0: return g.room;
            case 1: return g.wish;
            case 2: return g.doubt;
            case 3: return g.key ? 1 : 0;
            case 4: return g.here ? 1 : 0;
            case 5: return g.risk();
            case 6: return now.turns(guest);
            case 7: return bits(8, r -> now.sees(g, g.room, r));
            case 8: return !g.here || count(13) == 0 ? 0 : g.doubt * 100 / count(13);
            default: throw new NoSuchElementException();
        }
    }

    public int room(int room, int what) {
        roomMust(room);
        switch (what) {
            case 0: return bits(8, r -> now.hole[room][r]);
            case 1: return bits(8, r -> now.hole[r][room]);
            case 2: return bits(now.guests.size(), g -> now.guests.get(g).here && now.guests.get(g).room == room);
            case 3: return watchers(room);
            default: throw new NoSuchElementException();
        }
    }

    private int watchers(int room) {
        return bits(now.guests.size(), g -> now.watches(g, room));
    }

    public int calendar(int calendar, boolean next) {
        index(calendar == 0 || calendar == 1);
        if (!next) return now.shift[calendar];
        int n = 0;
        while (!now.saturday(calendar, now.day + n)) n++;
        return n;
    }

    public boolean saturday(int calendar, int day) {
        index(calendar == 0 || calendar == 1);
        legal(day >= 0 && day <= 9999);
        return now.saturday(calendar, day);
    }

    public int go(int guest, int room) {
        guestMust(guest);
        roomMust(room);
        act();
        int was = now.guests.get(guest).room;
        now.guests.get(guest).room = room;
        return was;
    }

    public boolean come(int guest, boolean here) {
        guestMust(guest);
        act();
        boolean was = now.guests.get(guest).here;
        now.guests.get(guest).here = here;
        return was ^ here;
    }

    public boolean key(int guest, boolean has) {
        guestMust(guest);
        act();
        boolean was = now.guests.get(guest).key;
        now.guests.get(guest).key = has;
        return was ^ has;
    }

    public boolean hole(int room, int into, boolean bored) {
        roomMust(room);
        roomMust(into);
        legal(room != into);
        act();
        boolean was = now.hole[room][into];
        now.hole[room][into] = bored;
        return was ^ bored;
    }

    public int bath(int room) {
        roomMust(room);
        act();
        int was = now.bath;
        now.bath = room;
        return was;
    }

    public int keep(int calendar) {
        index(calendar == 0 || calendar == 1);
        act();
        int was = now.kept;
        now.kept = calendar;
        return was;
    }

    public int masons(int n) {
        legal(n >= 0 && n <= 9);
        act();
        int was = now.masons;
        now.masons = n;
        return was;
    }

    public int buy(int n) {
        legal(n >= 1 && n <= 999);
        act();
        now.stones = now.stones + n > 9999 ? 9999 : now.stones + n;
        return now.stones;
    }

    public int calm(int guest) {
        guestMust(guest);
        act();
        return now.guests.get(guest).doubt /= 2;
    }

    public int days(int n) {
        legal(n >= 1 && n <= 60);
        act();
        int seen = now.seen;
        for (int i = 0; i < n; i++) now.day(false);
        return now.seen - seen;
    }

    public int ahead(int guest, int n, int what) {
        guestMust(guest);
        legal(n >= 0 && n <= 400);
        State s = now.ahead(n);
        switch (what) {
            case 0: return s.guests.get(guest).doubt;
            case 1: return s.towers;
            case 2: return s.stones;
            default: throw new NoSuchElementException();
        }
    }

    private int daysOf(int n, IntPredicate fits) {
        legal(n >= 0 && n <= 400);
        int found = 0;
        for (int day = now.day; day < now.day + n; day++) if (fits.test(day)) found++;
        return found;
    }

    public int both() {
        for (int n = 0; n <= 400; n++) {
            if (now.saturday(0, now.day + n) && now.saturday(1, now.day + n)) return n;
        }
        return -1;
    }

    public int saturdays(int n) {
        return daysOf(n, day -> now.saturday(0, day) || now.saturday(1, day));
    }

    public int agree(int n) {
        return daysOf(n, day -> now.saturday(0, day) == now.saturday(1, day));
    }

    private int firstAhead(java.util.function.Predicate<State> fits) {
        State s = now.copy();
        for (int n = 0; n <= 400; n++) {
            if (fits.test(s)) return n;
            s.day(true);
        }
        return -1;
    }

    public int first(int guest, int doubt) {
        guestMust(guest);
        legal(doubt >= 1 && doubt <= 99);
        return firstAhead(s -> s.guests.get(guest).doubt >= doubt);
    }

    public int gone() {
        return firstAhead(s -> s.stones == 0);
    }

    public int stand(int towers) {
        legal(towers >= 1 && towers <= 9999);
        return firstAhead(s -> s.towers >= towers);
    }

    public int need(int towers) {
        legal(towers >= 1 && towers <= 9999);
        int bought = 0;
        while (now.towers + now.stones + bought < towers) bought++;
        return bought;
    }

    public int spread(int n) {
        legal(n >= 0 && n <= 400);
        int[] doubts = now.ahead(n).guests.stream().filter(g -> g.here).mapToInt(g -> g.doubt).sorted().toArray();
        return doubts.length == 0 ? 0 : doubts[doubts.length - 1] - doubts[0];
    }

    private int oddsBut(int away) {
        java.math.BigDecimal missed = java.math.BigDecimal.ONE;
        for (int g = 0; g < now.guests.size(); g++) {
            if (now.watches(g, now.bath) && (away >> g & 1) == 0) {
                missed = missed.multiply(java.math.BigDecimal.valueOf(10 - now.guests.get(g).risk(), 1));
            }
        }
        return java.math.BigDecimal.ONE.subtract(missed).movePointRight(4).intValue();
    }

    public int odds() {
        return oddsBut(0);
    }

    public int send() {
        return watchers(now.bath);
    }

    /** The set of the fewest, then the least one, that fits. */
    private static int fewest(IntPredicate fits) {
        for (int size = 0; size <= 8; size++) {
            for (int set = 0; set < 256; set++) {
                if (Integer.bitCount(set) == size && fits.test(set)) return set;
            }
        }
        return -1;
    }

    public int sent(int q) {
        legal(q >= 0 && q <= 9999);
        return fewest(set -> (set & ~count(12)) == 0 && oddsBut(set) <= q);
    }

    public int mend() {
        int n = 0;
        for (int r = 0; r < 8; r++) if (now.hole[r][now.bath] && room(r, 2) != 0) n++;
        return n;
    }

    public int shut() {
        return fewest(set -> {
            for (int a = 0; a < 8; a++) {
                for (int b = 0; b < 8; b++) {
                    if (now.hole[a][b] && (set >> a & 1) == 0 && (set >> b & 1) == 0) return false;
                }
            }
            return true;
        });
    }

    public int quiet() {
        return bits(8, r -> watchers(r) == 0);
    }

    public int best() {
        int best = -1;
        long bestWeight = Long.MAX_VALUE;
        for (int r = 0; r < 8; r++) {
            int who = watchers(r);
            long weight = 1000L * Integer.bitCount(who);
            for (int g = 0; g < now.guests.size(); g++) if ((who >> g & 1) == 1) weight += now.guests.get(g).risk();
            if (weight < bestWeight) {
                bestWeight = weight;
                best = r;
            }
        }
        return best;
    }

    public int lodge(int k) {
        List<Guest> here = now.guests.stream().filter(g -> g.here).toList();
        int[] rooms = new int[here.size()];
        int[] found = null;
        int moves = 0;
        for (; moves <= here.size() && found == null; moves++) {
            if (place(here, rooms, 0, moves)) found = rooms.clone();
        }
        if (found == null) return -1;
        if (k == -1) return moves - 1;
        return k >= 0 && k < found.length ? found[k] : -1;
    }

    private boolean place(List<Guest> here, int[] rooms, int i, int moves) {
        if (i == here.size()) return true;
        Guest g = here.get(i);
        for (int r = 0; r < 8; r++) {
            boolean taken = false;
            for (int j = 0; j < i; j++) taken |= rooms[j] == r;
            int left = moves - (r == g.room ? 0 : 1);
            if (taken || left < 0 || now.sees(g, r, now.bath)) continue;
            rooms[i] = r;
            if (place(here, rooms, i + 1, left)) return true;
        }
        return false;
    }

    public int rests(int guest) {
        guestMust(guest);
        boolean watcher = now.watches(guest, now.bath);
        int wish = now.guests.get(guest).wish;
        int[][] host = {{watcher ? -20 : 10, 10}, {0, 0}};
        int[][] other = {{watcher ? wish : -3, 0}, {-3, 0}};
        int set = 0;
        for (int h = 0; h < 2; h++) {
            for (int g = 0; g < 2; g++) {
                if (host[1 - h][g] <= host[h][g] && other[h][1 - g] <= other[h][g]) set |= 1 << 2 * h + g;
            }
        }
        return set;
    }

    private List<int[]> told(int most) {
        List<Integer> bytes = new ArrayList<>(tape);
        tape.clear();
        legal(bytes.size() <= 40 && bytes.size() % 2 == 0);
        List<int[]> told = new ArrayList<>();
        for (int i = 0; i < bytes.size(); i += 2) {
            legal(bytes.get(i) <= most && bytes.get(i + 1) <= 1);
            told.add(new int[] {bytes.get(i), bytes.get(i + 1)});
        }
        return told;
    }

    private List<Integer> shiftsOf(List<int[]> told) {
        List<Integer> fits = new ArrayList<>();
        for (int s = 0; s < 7; s++) {
            int shift = s;
            if (told.stream().allMatch(t -> ((t[0] + shift) % 7 == 6 ? 1 : 0) == t[1])) fits.add(s);
        }
        return fits;
    }

    public int shifts() {
        return shiftsOf(told(6)).stream().mapToInt(s -> 1 << s).sum();
    }

    private static int parted(List<Integer> fits, int questions, java.util.function.IntBinaryOperator yes) {
        if (fits.size() < 2) return -1;
        int[] greater = new int[questions];
        for (int q = 0; q < questions; q++) {
            int n = 0;
            for (int f : fits) n += yes.applyAsInt(q, f);
            greater[q] = Math.max(n, fits.size() - n);
        }
        int least = Arrays.stream(greater).min().getAsInt();
        for (int q = 0; q < questions; q++) if (greater[q] == least) return q;
        throw new AssertionError();
    }

    public int ask() {
        return parted(shiftsOf(told(6)), 7, (day, shift) -> (day + shift) % 7 == 6 ? 1 : 0);
    }

    private List<Integer> weeksOf(List<int[]> told) {
        List<Integer> fits = new ArrayList<>();
        for (int w = 0; w < 52; w++) {
            int week = w;
            if (told.stream().allMatch(t -> t[1] == 1 ? t[0] >= week : t[0] < week)) fits.add(w);
        }
        return fits;
    }

    public int bored(boolean least) {
        List<Integer> fits = weeksOf(told(51));
        if (!least) return fits.size();
        return fits.isEmpty() ? -1 : fits.get(0);
    }

    public int look() {
        return parted(weeksOf(told(51)), 52, (asked, week) -> asked >= week ? 1 : 0);
    }

    private static int mostOf(int n, java.util.function.IntUnaryOperator weight, int above) {
        int best = -1;
        int most = above;
        for (int i = 0; i < n; i++) {
            if (weight.applyAsInt(i) > most) {
                most = weight.applyAsInt(i);
                best = i;
            }
        }
        return best;
    }

    public int keenest() {
        return mostOf(now.guests.size(), g -> now.guests.get(g).here ? now.guests.get(g).risk() : -1, -1);
    }

    public int alike() {
        int n = 0;
        for (Guest a : now.guests) for (Guest b : now.guests) if (a != b && a.wish == b.wish && a.room == b.room) n++;
        return n / 2;
    }

    public int line(int room, int other) {
        roomMust(room);
        roomMust(other);
        int[][] far = new int[8][8];
        for (int a = 0; a < 8; a++) for (int b = 0; b < 8; b++) far[a][b] = a == b ? 0 : now.hole[a][b] ? 1 : 99;
        for (int m = 0; m < 8; m++) {
            for (int a = 0; a < 8; a++) {
                for (int b = 0; b < 8; b++) far[a][b] = Math.min(far[a][b], far[a][m] + far[m][b]);
            }
        }
        return far[room][other] >= 99 ? -1 : far[room][other];
    }

    public int well() {
        return mostOf(8, r -> Integer.bitCount(room(r, 1)), 0);
    }

    public int pass(int room, int other) {
        roomMust(room);
        roomMust(other);
        int best = -1;
        if (room == other) return 0;
        for (int step : new int[] {1, 7}) {
            int n = 0;
            int at = room;
            do {
                at = (at + step) % 8;
                n++;
            } while (room(at, 2) == 0 && at != other);
            if (room(at, 2) == 0 && (best == -1 || n < best)) best = n;
        }
        return best;
    }

    public int crowd() {
        return mostOf(8, r -> Integer.bitCount(room(r, 2)), 0);
    }

    public int locked() {
        int with = watchers(now.bath);
        State s = now.copy();
        for (Guest g : s.guests) g.key = false;
        return with & ~bits(s.guests.size(), g -> s.watches(g, s.bath));
    }

    public int mutual() {
        int n = 0;
        for (int a = 0; a < now.guests.size(); a++) {
            for (int b = 0; b < a; b++) {
                if (now.watches(a, now.guests.get(b).room) && now.watches(b, now.guests.get(a).room)) n++;
            }
        }
        return n;
    }

    public int trial(int n, boolean holes) {
        legal(n >= 0 && n <= 60);
        State s = now.copy();
        for (int i = 0; i < n; i++) s.day(false);
        return holes ? s.holes() : s.seen - now.seen;
    }

    public int span(int n, boolean most) {
        legal(n >= 0 && n <= 60);
        int[] seen = new int[6];
        for (int seed = 1; seed <= 6; seed++) {
            State s = now.copy();
            s.seed = seed;
            for (int i = 0; i < n; i++) s.day(false);
            seen[seed - 1] = s.seen - now.seen;
        }
        Arrays.sort(seen);
        return most ? seen[5] : seen[0];
    }

    public int led(int guest, boolean day) {
        guestMust(guest);
        List<int[]> rows = now.log.stream().filter(row -> row[1] == guest).toList();
        if (!day) return rows.size();
        return rows.isEmpty() ? -1 : rows.get(0)[0];
    }

    public int log(int ago, int what) {
        if (what < 0 || what > 3) throw new NoSuchElementException();
        return ago >= 0 && ago < now.log.size() ? now.log.get(ago)[what] : -1;
    }

    public int seed(int n) {
        int was = now.seed;
        now.seed = n;
        return was;
    }

    public boolean undo() {
        if (past.isEmpty()) return false;
        now = past.pop();
        return true;
    }

    public void image() {
        kept = now.copy();
    }

    public boolean back() {
        if (kept == null) return false;
        now = kept.copy();
        past.clear();
        return true;
    }

    public int count(int what) {
        switch (what) {
            case 0: return now.guests.size();
            case 1: return now.texts;
            case 2: return now.law == null ? -1 : now.law.size();
            case 3: return now.day;
            case 4: return now.bath;
            case 5: return now.kept;
            case 6: return now.masons;
            case 7: return now.stones;
            case 8: return now.towers;
            case 9: return now.bore;
            case 10: return now.seen;
            case 11: return now.holes();
            case 12: return bits(now.guests.size(), g -> now.guests.get(g).here);
            case 13: return now.guests.stream().filter(g -> g.here).mapToInt(g -> g.doubt).sum();
            case 14: return now.log.size();
            case 15: return past.size();
            default: return -1;
        }
    }
}
