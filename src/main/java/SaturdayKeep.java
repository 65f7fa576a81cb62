import java.util.NoSuchElementException;

/** A house in which nobody may see her on a Saturday; README.md tells how it is used. */
public final class SaturdayKeep {
    public static final int NONE = -1;

    private static final int ROOMS = 8;
    private static final int GUESTS = 8;
    private static final int SETS = 256;
    private static final int WEEK = 7;
    private static final int LAST_WEEK_DAY = 6;
    private static final int LAST_WEEK = 51;
    private static final int MOST = 9999;
    private static final int MOST_WISH = 10;
    private static final int MOST_DOUBT = 99;
    private static final int MOST_MASONS = 9;
    private static final int MOST_BORE = 100;
    private static final int MOST_TOLD = 999;
    private static final int FAR = 400;
    private static final int LIVED = 60;
    private static final int SEEDS = 6;
    private static final int TAPE = 400;
    private static final int FED = 20;
    private static final int TOLD_BYTES = 40;
    private static final int TEXTS = 12;
    private static final int NO_WAY = 100;
    // Each of the eight guests counts as ten tenths, so the whole is this, whoever watches.
    private static final long CERTAIN = 100000000L;
    private static final long CERTAIN_BY_TEN_THOUSANDTHS = 10000L;

    private final Tape tape;
    private final Tokens tokens;
    private final HouseReader houseReader;
    private final LawReader lawReader;
    private final House now;
    // What is only tried is done here, so that nothing of it stays.
    private final House draft;
    private final House image;
    private final Past past;
    private final int[] moves;
    private boolean imageKept;
    private int fault;

    public SaturdayKeep() {
        tape = new Tape();
        tokens = new Tokens();
        houseReader = new HouseReader(tokens);
        lawReader = new LawReader(tokens);
        now = new House();
        draft = new House();
        image = new House();
        past = new Past();
        moves = new int[SETS];
        imageKept = false;
        fault = NONE;
    }

    // ---- the tape and the texts ----

    public int feed(int a, int b, int c, int d, int e) {
        if (tape.length + FED > TAPE) {
            return NONE;
        }
        tape.putNumber(a);
        tape.putNumber(b);
        tape.putNumber(c);
        tape.putNumber(d);
        tape.putNumber(e);
        return tape.length;
    }

    public boolean end(int n) {
        if (n < 0 || n > tape.length) {
            return false;
        }
        tape.length = n;
        return true;
    }

    public int house() throws IllegalArgumentException, UnsupportedOperationException {
        tokens.read(tape);
        tape.length = 0;
        draft.copy(now);
        boolean right = houseReader.read(draft);
        fault = right ? NONE : tokens.begin();
        if (!right) {
            throw new IllegalArgumentException("the text of the house is wrong");
        }
        if (now.texts >= TEXTS) {
            throw new UnsupportedOperationException("there are twelve texts");
        }
        now.copy(draft);
        now.texts++;
        past.forget();
        return now.texts;
    }

    public int law() throws IllegalArgumentException {
        tokens.read(tape);
        tape.length = 0;
        boolean right = lawReader.read();
        fault = right ? NONE : tokens.begin();
        if (!right) {
            throw new IllegalArgumentException("the text of the law is wrong");
        }
        now.law.copy(lawReader.draft);
        past.forget();
        return now.law.lines;
    }

    public int fault() {
        return fault;
    }

    // ---- what there is ----

    public int guest(int guest, int what) throws IndexOutOfBoundsException, NoSuchElementException {
        if (!isGuest(guest)) {
            throw new IndexOutOfBoundsException("no such guest");
        }
        switch (what) {
            case 0: return now.guests.roomOf(guest);
            case 1: return now.guests.wishOf(guest);
            case 2: return now.guests.doubtOf(guest);
            case 3: return holds(now.guests.keys, guest) ? 1 : 0;
            case 4: return holds(now.guests.here, guest) ? 1 : 0;
            case 5: return now.guests.risk(guest);
            case 6: return now.turns(guest);
            case 7: return now.spies(guest);
            case 8: return shareOf(guest);
            default: throw new NoSuchElementException("no such thing of a guest");
        }
    }

    private int shareOf(int guest) {
        int all = now.guests.doubtHere();
        if (all <= 0 || !holds(now.guests.here, guest)) {
            return 0;
        }
        return 100 * now.guests.doubtOf(guest) / all;
    }

    public int room(int room, int what) throws IndexOutOfBoundsException, NoSuchElementException {
        if (!isRoom(room)) {
            throw new IndexOutOfBoundsException("no such room");
        }
        switch (what) {
            case 0: return now.holesFrom(room);
            case 1: return now.holesInto(room);
            case 2: return now.guests.hereIn(room);
            case 3: return now.watchers(room);
            default: throw new NoSuchElementException("no such thing of a room");
        }
    }

    public int calendar(int calendar, boolean next) throws IndexOutOfBoundsException {
        if (!isCalendar(calendar)) {
            throw new IndexOutOfBoundsException("no such calendar");
        }
        return next ? now.untilSaturday(calendar) : now.shiftOf(calendar);
    }

    public boolean saturday(int calendar, int day) throws IndexOutOfBoundsException, IllegalArgumentException {
        if (!isCalendar(calendar)) {
            throw new IndexOutOfBoundsException("no such calendar");
        }
        if (day < 0 || day > MOST) {
            throw new IllegalArgumentException("no such day");
        }
        return now.isSaturday(calendar, day);
    }

    // ---- acts ----

    public int go(int guest, int room) throws IndexOutOfBoundsException {
        if (!isGuest(guest) || !isRoom(room)) {
            throw new IndexOutOfBoundsException("no such guest or room");
        }
        past.remember(now);
        int was = now.guests.roomOf(guest);
        now.guests.put(guest, room);
        return was;
    }

    public boolean come(int guest, boolean here) throws IndexOutOfBoundsException {
        if (!isGuest(guest)) {
            throw new IndexOutOfBoundsException("no such guest");
        }
        past.remember(now);
        boolean was = holds(now.guests.here, guest);
        now.guests.here = withMember(now.guests.here, guest, here);
        return was != here;
    }

    public boolean key(int guest, boolean has) throws IndexOutOfBoundsException {
        if (!isGuest(guest)) {
            throw new IndexOutOfBoundsException("no such guest");
        }
        past.remember(now);
        boolean had = holds(now.guests.keys, guest);
        now.guests.keys = withMember(now.guests.keys, guest, has);
        return had != has;
    }

    public boolean hole(int room, int into, boolean bored) throws IndexOutOfBoundsException, IllegalArgumentException {
        if (!isRoom(room) || !isRoom(into)) {
            throw new IndexOutOfBoundsException("no such room");
        }
        if (room == into) {
            throw new IllegalArgumentException("no hole from a room into itself");
        }
        past.remember(now);
        boolean was = holds(now.holesFrom(room), into);
        now.setHole(room, into, bored);
        return was != bored;
    }

    public int bath(int room) throws IndexOutOfBoundsException {
        if (!isRoom(room)) {
            throw new IndexOutOfBoundsException("no such room");
        }
        past.remember(now);
        int was = now.bath;
        now.bath = room;
        return was;
    }

    public int keep(int calendar) throws IndexOutOfBoundsException {
        if (!isCalendar(calendar)) {
            throw new IndexOutOfBoundsException("no such calendar");
        }
        past.remember(now);
        int was = now.kept;
        now.kept = calendar;
        return was;
    }

    public int masons(int n) throws IllegalArgumentException {
        if (n < 0 || n > MOST_MASONS) {
            throw new IllegalArgumentException("so many masons are none");
        }
        past.remember(now);
        int was = now.masons;
        now.masons = n;
        return was;
    }

    public int buy(int n) throws IllegalArgumentException {
        if (n < 1 || n > MOST_TOLD) {
            throw new IllegalArgumentException("so many stones are none");
        }
        past.remember(now);
        now.stones = Math.min(MOST, now.stones + n);
        return now.stones;
    }

    public int calm(int guest) throws IndexOutOfBoundsException {
        if (!isGuest(guest)) {
            throw new IndexOutOfBoundsException("no such guest");
        }
        past.remember(now);
        now.guests.setDoubt(guest, now.guests.doubtOf(guest) / 2);
        return now.guests.doubtOf(guest);
    }

    public int days(int n) throws IllegalArgumentException {
        if (n < 1 || n > LIVED) {
            throw new IllegalArgumentException("so many days are none");
        }
        past.remember(now);
        return live(now, n);
    }

    private static int live(House house, int n) {
        int before = house.seen;
        for (int i = 0; i < n; i++) {
            house.liveDay();
        }
        return house.seen - before;
    }

    // ---- what is ahead ----

    public int ahead(int guest, int n, int what)
            throws IndexOutOfBoundsException, IllegalArgumentException, NoSuchElementException {
        if (!isGuest(guest)) {
            throw new IndexOutOfBoundsException("no such guest");
        }
        if (!isFar(n)) {
            throw new IllegalArgumentException("so many days are none");
        }
        if (what < 0 || what > 2) {
            throw new NoSuchElementException("no such thing ahead");
        }
        draft.copy(now);
        for (int i = 0; i < n; i++) {
            draft.foreseeDay(1 << guest);
        }
        switch (what) {
            case 0: return draft.guests.doubtOf(guest);
            case 1: return draft.towers;
            default: return draft.stones;
        }
    }

    public int both() {
        for (int n = 0; n <= FAR; n++) {
            if (now.saturdaysAt(n) == 2) {
                return n;
            }
        }
        return NONE;
    }

    public int saturdays(int n) throws IllegalArgumentException {
        if (!isFar(n)) {
            throw new IllegalArgumentException("so many days are none");
        }
        int found = 0;
        for (int i = 0; i < n; i++) {
            if (now.saturdaysAt(i) > 0) {
                found++;
            }
        }
        return found;
    }

    public int agree(int n) throws IllegalArgumentException {
        if (!isFar(n)) {
            throw new IllegalArgumentException("so many days are none");
        }
        int found = 0;
        for (int i = 0; i < n; i++) {
            if (now.saturdaysAt(i) != 1) {
                found++;
            }
        }
        return found;
    }

    public int first(int guest, int doubt) throws IndexOutOfBoundsException, IllegalArgumentException {
        if (!isGuest(guest)) {
            throw new IndexOutOfBoundsException("no such guest");
        }
        if (doubt < 1 || doubt > MOST_DOUBT) {
            throw new IllegalArgumentException("so much doubt is none");
        }
        draft.copy(now);
        for (int n = 0; n <= FAR; n++) {
            if (draft.guests.doubtOf(guest) >= doubt) {
                return n;
            }
            draft.foreseeDay(1 << guest);
        }
        return NONE;
    }

    public int gone() {
        draft.copy(now);
        for (int n = 0; n <= FAR; n++) {
            if (draft.stones == 0) {
                return n;
            }
            draft.build();
        }
        return NONE;
    }

    public int stand(int towers) throws IllegalArgumentException {
        if (!isTowers(towers)) {
            throw new IllegalArgumentException("so many towers are none");
        }
        draft.copy(now);
        for (int n = 0; n <= FAR; n++) {
            if (draft.towers >= towers) {
                return n;
            }
            draft.build();
        }
        return NONE;
    }

    public int need(int towers) throws IllegalArgumentException {
        if (!isTowers(towers)) {
            throw new IllegalArgumentException("so many towers are none");
        }
        return Math.max(0, towers - now.towers - now.stones);
    }

    public int spread(int n) throws IllegalArgumentException {
        if (!isFar(n)) {
            throw new IllegalArgumentException("so many days are none");
        }
        draft.copy(now);
        for (int i = 0; i < n; i++) {
            draft.foreseeDay(draft.guests.here);
        }
        return draft.guests.spreadHere();
    }

    // ---- who sees, and what is to be done about it ----

    public int odds() {
        return oddsBy(now.watchers(now.bath));
    }

    private int oddsBy(int watchers) {
        long missed = 1;
        for (int g = 0; g < GUESTS; g++) {
            missed *= holds(watchers, g) ? 10 - now.guests.risk(g) : 10;
        }
        return (int) ((CERTAIN - missed) / CERTAIN_BY_TEN_THOUSANDTHS);
    }

    public int send() {
        return now.watchers(now.bath);
    }

    public int sent(int q) throws IllegalArgumentException {
        if (q < 0 || q > MOST) {
            throw new IllegalArgumentException("such odds are none");
        }
        int watchers = now.watchers(now.bath);
        int best = watchers;
        for (int set = 0; set < SETS; set++) {
            boolean fewer = Integer.bitCount(set) < Integer.bitCount(best);
            boolean watching = (set & ~watchers) == 0;
            // The sets come from the least on, so an equal one never takes the place of an earlier one.
            if (watching && (fewer || set < best && Integer.bitCount(set) == Integer.bitCount(best))
                    && oddsBy(watchers & ~set) <= q) {
                best = set;
            }
        }
        return best;
    }

    public int mend() {
        return Integer.bitCount(now.holesInto(now.bath) & now.guests.roomsHere());
    }

    public int shut() {
        int best = SETS - 1;
        for (int set = SETS - 1; set >= 0; set--) {
            if (Integer.bitCount(set) <= Integer.bitCount(best) && shutsAll(set)) {
                best = set;
            }
        }
        return best;
    }

    private boolean shutsAll(int set) {
        for (int room = 0; room < ROOMS; room++) {
            if (!holds(set, room) && (now.holesFrom(room) & ~set) != 0) {
                return false;
            }
        }
        return true;
    }

    public int quiet() {
        int seenRooms = 0;
        for (int g = 0; g < GUESTS; g++) {
            if (holds(now.guests.here, g)) {
                seenRooms |= now.spies(g);
            }
        }
        return ~seenRooms & (SETS - 1);
    }

    public int best() {
        int best = 0;
        for (int room = 1; room < ROOMS; room++) {
            if (isBetterBath(room, best)) {
                best = room;
            }
        }
        return best;
    }

    private boolean isBetterBath(int room, int than) {
        int watchers = now.watchers(room);
        int others = now.watchers(than);
        int fewer = Integer.bitCount(others) - Integer.bitCount(watchers);
        if (fewer != 0) {
            return fewer > 0;
        }
        return now.guests.riskOf(watchers) < now.guests.riskOf(others);
    }

    public int locked() {
        int locked = 0;
        for (int g = 0; g < GUESTS; g++) {
            if (holds(now.watchers(now.bath), g) && !holds(now.sight(now.guests.roomOf(g), false), now.bath)) {
                locked |= 1 << g;
            }
        }
        return locked;
    }

    public int mutual() {
        int pairs = 0;
        for (int g = 0; g < GUESTS; g++) {
            for (int other = g + 1; other < GUESTS; other++) {
                if (holds(now.guests.here, g) && holds(now.guests.here, other)
                        && holds(now.spies(g), now.guests.roomOf(other))
                        && holds(now.spies(other), now.guests.roomOf(g))) {
                    pairs++;
                }
            }
        }
        return pairs;
    }

    public int lodge(int k) {
        int lodgers = Integer.bitCount(now.guests.here);
        weighLodgings(lodgers);
        if (moves[0] >= NO_WAY) {
            return NONE;
        }
        if (k == NONE) {
            return moves[0];
        }
        if (k < 0 || k >= lodgers) {
            return NONE;
        }
        int taken = 0;
        int room = NONE;
        for (int i = 0; i <= k; i++) {
            room = firstLodging(i, taken);
            taken = withMember(taken, room, true);
        }
        return room;
    }

    /** By each set of ROOMS that the first guests have taken: the fewest of the others who must move. */
    private void weighLodgings(int lodgers) {
        for (int taken = SETS - 1; taken >= 0; taken--) {
            int placed = Integer.bitCount(taken);
            int fewest = placed == lodgers ? 0 : NO_WAY;
            if (placed < lodgers) {
                for (int room = 0; room < ROOMS; room++) {
                    fewest = Math.min(fewest, movesBy(placed, room, taken));
                }
            }
            moves[taken] = fewest;
        }
    }

    private int movesBy(int k, int room, int taken) {
        int guest = now.guests.lodger(k);
        int then = withMember(taken, room, true);
        if (holds(taken, room) || then < 0 || then >= moves.length
                || holds(now.sight(room, holds(now.guests.keys, guest)), now.bath)) {
            return NO_WAY;
        }
        return moves[then] + (now.guests.roomOf(guest) == room ? 0 : 1);
    }

    private int firstLodging(int k, int taken) {
        for (int room = 0; room < ROOMS; room++) {
            if (taken >= 0 && taken < moves.length && movesBy(k, room, taken) == moves[taken]) {
                return room;
            }
        }
        return NONE;
    }

    public int rests(int guest) throws IndexOutOfBoundsException {
        if (!isGuest(guest)) {
            throw new IndexOutOfBoundsException("no such guest");
        }
        boolean watches = holds(now.watchers(now.bath), guest);
        int wish = now.guests.wishOf(guest);
        int resting = 0;
        for (int choice = 0; choice < 4; choice++) {
            int hostElse = choice ^ 2;
            int guestElse = choice ^ 1;
            if (hostHas(choice, watches) >= hostHas(hostElse, watches)
                    && guestHas(choice, watches, wish) >= guestHas(guestElse, watches, wish)) {
                resting |= 1 << choice;
            }
        }
        return resting;
    }

    private static int hostHas(int choice, boolean watches) {
        boolean bathes = choice < 2;
        boolean isSeen = choice == 0 && watches;
        if (!bathes) {
            return 0;
        }
        return isSeen ? -20 : 10;
    }

    private static int guestHas(int choice, boolean watches, int wish) {
        boolean looks = choice % 2 == 0;
        boolean sees = choice == 0 && watches;
        if (!looks) {
            return 0;
        }
        return sees ? wish : -3;
    }

    // ---- what is told, and what to ask ----

    public int shifts() throws IllegalArgumentException {
        boolean told = tape.isTold(LAST_WEEK_DAY);
        int fits = shiftsThatFit();
        tape.length = 0;
        if (!told) {
            throw new IllegalArgumentException("the tape is not that");
        }
        return fits;
    }

    public int ask() throws IllegalArgumentException {
        boolean told = tape.isTold(LAST_WEEK_DAY);
        int fits = shiftsThatFit();
        tape.length = 0;
        if (!told) {
            throw new IllegalArgumentException("the tape is not that");
        }
        int all = Integer.bitCount(fits);
        int best = NONE;
        int least = all + 1;
        for (int day = 0; day < WEEK && all > 1; day++) {
            int saturdays = holds(fits, LAST_WEEK_DAY - day) ? 1 : 0;
            int greater = Math.max(saturdays, all - saturdays);
            if (greater < least) {
                least = greater;
                best = day;
            }
        }
        return best;
    }

    private int shiftsThatFit() {
        int fits = 0;
        for (int shift = 0; shift < WEEK; shift++) {
            boolean fit = true;
            for (int i = 0; i + 1 < tape.length; i += 2) {
                boolean saturday = (tape.at(i) + shift) % WEEK == LAST_WEEK_DAY;
                fit = fit && saturday == (tape.at(i + 1) == 1);
            }
            fits = withMember(fits, shift, fit);
        }
        return fits;
    }

    public int bored(boolean least) throws IllegalArgumentException {
        boolean told = tape.isTold(LAST_WEEK);
        long fits = weeksThatFit();
        tape.length = 0;
        if (!told) {
            throw new IllegalArgumentException("the tape is not that");
        }
        if (!least) {
            return Long.bitCount(fits);
        }
        for (int week = 0; week <= LAST_WEEK; week++) {
            if ((fits >> week & 1) == 1) {
                return week;
            }
        }
        return NONE;
    }

    public int look() throws IllegalArgumentException {
        boolean told = tape.isTold(LAST_WEEK);
        long fits = weeksThatFit();
        tape.length = 0;
        if (!told) {
            throw new IllegalArgumentException("the tape is not that");
        }
        int all = Long.bitCount(fits);
        int best = NONE;
        int least = all + 1;
        int there = 0;
        for (int week = 0; week <= LAST_WEEK && all > 1; week++) {
            there += (int) (fits >> week & 1);
            int greater = Math.max(there, all - there);
            if (greater < least) {
                least = greater;
                best = week;
            }
        }
        return best;
    }

    private long weeksThatFit() {
        long fits = 0;
        for (int week = 0; week <= LAST_WEEK; week++) {
            boolean fit = true;
            for (int i = 0; i + 1 < tape.length; i += 2) {
                boolean there = tape.at(i) >= week;
                fit = fit && there == (tape.at(i + 1) == 1);
            }
            if (fit) {
                fits |= 1L << week;
            }
        }
        return fits;
    }

    // ---- guests and rooms beside one another ----

    public int keenest() {
        int keenest = NONE;
        for (int g = 0; g < GUESTS; g++) {
            if (holds(now.guests.here, g)
                    && (keenest == NONE || now.guests.risk(g) > now.guests.risk(keenest))) {
                keenest = g;
            }
        }
        return keenest;
    }

    public int alike() {
        int pairs = 0;
        for (int g = 0; g < now.guests.count; g++) {
            for (int other = g + 1; other < now.guests.count; other++) {
                if (now.guests.wishOf(g) == now.guests.wishOf(other)
                        && now.guests.roomOf(g) == now.guests.roomOf(other)) {
                    pairs++;
                }
            }
        }
        return pairs;
    }

    public int line(int room, int other) throws IndexOutOfBoundsException {
        if (!isRoom(room) || !isRoom(other)) {
            throw new IndexOutOfBoundsException("no such room");
        }
        int reached = 1 << room;
        for (int n = 0; n < ROOMS; n++) {
            if (holds(reached, other)) {
                return n;
            }
            reached |= now.holesFromAny(reached);
        }
        return NONE;
    }

    public int well() {
        int well = NONE;
        int most = 0;
        for (int room = 0; room < ROOMS; room++) {
            int holes = Integer.bitCount(now.holesInto(room));
            if (holes > most) {
                most = holes;
                well = room;
            }
        }
        return well;
    }

    public int pass(int room, int other) throws IndexOutOfBoundsException {
        if (!isRoom(room) || !isRoom(other)) {
            throw new IndexOutOfBoundsException("no such room");
        }
        if (room == other) {
            return 0;
        }
        int up = stepsRound(room, other, 1);
        int down = stepsRound(room, other, -1);
        if (up == NONE || down == NONE) {
            return Math.max(up, down);
        }
        return Math.min(up, down);
    }

    private int stepsRound(int room, int other, int step) {
        int taken = now.guests.roomsHere();
        for (int n = 1; n < ROOMS; n++) {
            int reached = Math.floorMod(room + step * n, ROOMS);
            if (holds(taken, reached)) {
                return NONE;
            }
            if (reached == other) {
                return n;
            }
        }
        return NONE;
    }

    public int crowd() {
        int crowd = NONE;
        int most = 0;
        for (int room = 0; room < ROOMS; room++) {
            int guests = Integer.bitCount(now.guests.hereIn(room));
            if (guests > most) {
                most = guests;
                crowd = room;
            }
        }
        return crowd;
    }

    // ---- trials, the log, and what is kept ----

    public int trial(int n, boolean holes) throws IllegalArgumentException {
        if (n < 0 || n > LIVED) {
            throw new IllegalArgumentException("so many days are none");
        }
        draft.copy(now);
        int looks = live(draft, n);
        return holes ? draft.allHoles() : looks;
    }

    public int span(int n, boolean most) throws IllegalArgumentException {
        if (n < 0 || n > LIVED) {
            throw new IllegalArgumentException("so many days are none");
        }
        int found = NONE;
        for (int seed = 1; seed <= SEEDS; seed++) {
            draft.copy(now);
            draft.seed = seed;
            int looks = live(draft, n);
            if (found == NONE || (most ? looks > found : looks < found)) {
                found = looks;
            }
        }
        return found;
    }

    public int led(int guest, boolean day) throws IndexOutOfBoundsException {
        if (!isGuest(guest)) {
            throw new IndexOutOfBoundsException("no such guest");
        }
        return day ? now.book.latestDayOf(guest) : now.book.rowsOf(guest);
    }

    public int log(int ago, int what) throws NoSuchElementException {
        if (what < 0 || what >= Book.CELLS) {
            throw new NoSuchElementException("no such thing of a look");
        }
        return now.book.cell(ago, what);
    }

    public int seed(int n) {
        int was = now.seed;
        now.seed = n;
        return was;
    }

    public boolean undo() {
        return past.takeBack(now);
    }

    public void image() {
        image.copy(now);
        imageKept = true;
    }

    public boolean back() {
        if (!imageKept) {
            return false;
        }
        now.copy(image);
        past.forget();
        return true;
    }

    public int count(int what) {
        switch (what) {
            case 0: return now.guests.count;
            case 1: return now.texts;
            case 2: return now.law.lines;
            case 3: return now.day;
            case 4: return now.bath;
            case 5: return now.kept;
            case 6: return now.masons;
            case 7: return now.stones;
            case 8: return now.towers;
            case 9: return now.bore;
            case 10: return now.seen;
            case 11: return now.allHoles();
            case 12: return now.guests.here;
            case 13: return now.guests.doubtHere();
            case 14: return now.book.rows;
            case 15: return past.count;
            default: return NONE;
        }
    }

    // ---- what can be told of numbers ----

    private boolean isGuest(int guest) {
        return guest >= 0 && guest < now.guests.count;
    }

    private static boolean isRoom(int room) {
        return room >= 0 && room < ROOMS;
    }

    private static boolean isCalendar(int calendar) {
        return calendar == 0 || calendar == 1;
    }

    private static boolean isFar(int n) {
        return n >= 0 && n <= FAR;
    }

    private static boolean isTowers(int towers) {
        return towers >= 1 && towers <= MOST;
    }

    private static boolean holds(int set, int member) {
        return (set >> member & 1) == 1;
    }

    private static int withMember(int set, int member, boolean in) {
        return in ? set | 1 << member : set & ~(1 << member);
    }

    /** Bytes that are told: a text, or what is known. */
    private static final class Tape {
        final int[] bytes = new int[TAPE];
        int length;

        void putNumber(int number) {
            for (int shift = 24; shift >= 0; shift -= 8) {
                if (length < bytes.length) {
                    bytes[length] = number >>> shift & 255;
                    length++;
                }
            }
        }

        int at(int index) {
            return index >= 0 && index < length && index < bytes.length ? bytes[index] : 0;
        }

        /** Whether these are pairs, the first of each at most so much, the second 0 or 1. */
        boolean isTold(int most) {
            if (length > TOLD_BYTES || length % 2 != 0) {
                return false;
            }
            for (int i = 0; i < length; i += 2) {
                if (at(i) > most || at(i + 1) > 1) {
                    return false;
                }
            }
            return true;
        }
    }

    /** A text as words, numbers and signs, read one behind another. */
    private static final class Tokens {
        static final int END = 0;
        static final int WRONG = 1;
        static final int NUMBER = 2;
        static final int SEMICOLON = 3;
        static final int OPEN = 4;
        static final int CLOSE = 5;
        static final int LESS = 6;
        static final int MORE = 7;
        static final int PLUS = 8;
        // The words from GUEST to EVE stand in the order of the law's facts.
        static final int GUEST = 10;
        static final int ROOM = 11;
        static final int WISH = 12;
        static final int DOUBTED = 13;
        static final int TOWERS = 14;
        static final int HOLES = 15;
        static final int WEEKS = 16;
        static final int KEY = 17;
        static final int EVE = 18;
        static final int AT = 20;
        static final int DOUBT = 21;
        static final int CALM = 22;
        static final int IF = 23;
        static final int OR = 24;
        static final int AND = 25;
        static final int NOT = 26;
        static final int HOLE = 27;
        static final int BATH = 28;
        static final int SHIFT = 29;
        static final int KEEP = 30;
        static final int MASONS = 31;
        static final int STONES = 32;
        static final int BORE = 33;
        static final int DAY = 34;
        static final int DIGITS = 3;

        final int[] kinds = new int[TAPE + 1];
        final int[] begins = new int[TAPE + 1];
        final int[] numbers = new int[TAPE + 1];
        int count;
        int at;
        int value;

        void read(Tape tape) {
            count = 0;
            at = 0;
            int next = 0;
            for (int i = 0; i < tape.length; i = next) {
                next = Math.max(i + 1, endOf(tape, i));
                if (tape.at(i) != ' ') {
                    add(tape, i, next);
                }
            }
            if (count < kinds.length) {
                kinds[count] = END;
                begins[count] = tape.length;
                count++;
            }
        }

        private static int endOf(Tape tape, int from) {
            boolean word = isLetter(tape.at(from));
            boolean number = isDigit(tape.at(from));
            int end = from + 1;
            while (end < tape.length && (word && isLetter(tape.at(end)) || number && isDigit(tape.at(end)))) {
                end++;
            }
            return end;
        }

        private void add(Tape tape, int from, int end) {
            if (count >= kinds.length) {
                return;
            }
            int sign = tape.at(from);
            begins[count] = from;
            if (isLetter(sign)) {
                kinds[count] = wordOf(tape, from, end);
            } else if (isDigit(sign)) {
                kinds[count] = end - from <= DIGITS ? NUMBER : WRONG;
                numbers[count] = numberOf(tape, from, Math.min(end, from + DIGITS));
            } else {
                kinds[count] = signOf(sign);
            }
            count++;
        }

        private static boolean isLetter(int sign) {
            return sign >= 'a' && sign <= 'z';
        }

        private static boolean isDigit(int sign) {
            return sign >= '0' && sign <= '9';
        }

        private static int numberOf(Tape tape, int from, int end) {
            int number = 0;
            for (int i = from; i < end; i++) {
                number = number * 10 + tape.at(i) - '0';
            }
            return number;
        }

        private static int signOf(int sign) {
            switch (sign) {
                case ';': return SEMICOLON;
                case '(': return OPEN;
                case ')': return CLOSE;
                case '<': return LESS;
                case '>': return MORE;
                case '+': return PLUS;
                default: return WRONG;
            }
        }

        private static int wordOf(Tape tape, int from, int end) {
            if (isWord("guest", tape, from, end)) return GUEST;
            if (isWord("room", tape, from, end)) return ROOM;
            if (isWord("wish", tape, from, end)) return WISH;
            if (isWord("doubted", tape, from, end)) return DOUBTED;
            if (isWord("towers", tape, from, end)) return TOWERS;
            if (isWord("holes", tape, from, end)) return HOLES;
            if (isWord("week", tape, from, end)) return WEEKS;
            if (isWord("key", tape, from, end)) return KEY;
            if (isWord("eve", tape, from, end)) return EVE;
            if (isWord("at", tape, from, end)) return AT;
            if (isWord("doubt", tape, from, end)) return DOUBT;
            if (isWord("calm", tape, from, end)) return CALM;
            if (isWord("if", tape, from, end)) return IF;
            if (isWord("or", tape, from, end)) return OR;
            if (isWord("and", tape, from, end)) return AND;
            if (isWord("not", tape, from, end)) return NOT;
            if (isWord("hole", tape, from, end)) return HOLE;
            if (isWord("bath", tape, from, end)) return BATH;
            if (isWord("shift", tape, from, end)) return SHIFT;
            if (isWord("keep", tape, from, end)) return KEEP;
            if (isWord("masons", tape, from, end)) return MASONS;
            if (isWord("stones", tape, from, end)) return STONES;
            if (isWord("bore", tape, from, end)) return BORE;
            if (isWord("day", tape, from, end)) return DAY;
            return WRONG;
        }

        private static boolean isWord(String word, Tape tape, int from, int end) {
            if (end - from != word.length()) {
                return false;
            }
            for (int i = 0; i < word.length(); i++) {
                if (tape.at(from + i) != word.charAt(i)) {
                    return false;
                }
            }
            return true;
        }

        int kind() {
            return at >= 0 && at < kinds.length ? kinds[at] : END;
        }

        /** Where the thing begins that comes next; behind a refusal this is the first wrong byte. */
        int begin() {
            return at >= 0 && at < begins.length ? begins[at] : 0;
        }

        /** The END is never taken, so that one never reads beyond it. */
        boolean take(int kind) {
            if (kind == END || at < 0 || at >= kinds.length || kinds[at] != kind) {
                return false;
            }
            at++;
            return true;
        }

        boolean takeNumber(int most) {
            if (at < 0 || at >= kinds.length || at >= numbers.length || kinds[at] != NUMBER || numbers[at] > most) {
                return false;
            }
            value = numbers[at];
            at++;
            return true;
        }
    }

    /** Reads a text of THE HOUSE into a house that may be thrown away. */
    private static final class HouseReader {
        static final int LINES = 14;

        final Tokens tokens;

        HouseReader(Tokens tokens) {
            this.tokens = tokens;
        }

        boolean read(House house) {
            if (tokens.kind() == Tokens.END) {
                return true;
            }
            int lines = 0;
            do {
                if (lines >= LINES || !readLine(house)) {
                    return false;
                }
                lines++;
            } while (tokens.take(Tokens.SEMICOLON));
            return tokens.kind() == Tokens.END;
        }

        private boolean readLine(House house) {
            int word = tokens.kind();
            switch (word) {
                case Tokens.GUEST: return readGuest(house);
                case Tokens.HOLE: return readHole(house);
                case Tokens.SHIFT: return readShift(house);
                case Tokens.BATH: return readNumber(house, word, ROOMS - 1);
                case Tokens.KEEP: return readNumber(house, word, 1);
                case Tokens.MASONS: return readNumber(house, word, MOST_MASONS);
                case Tokens.STONES: return readNumber(house, word, MOST_TOLD);
                case Tokens.BORE: return readNumber(house, word, MOST_BORE);
                case Tokens.DAY: return readNumber(house, word, MOST_TOLD);
                default: return false;
            }
        }

        private boolean readGuest(House house) {
            // A guest too many is wrong from his first word on, whatever comes behind it.
            if (house.guests.count >= GUESTS || !tokens.take(Tokens.GUEST)) {
                return false;
            }
            if (!tokens.take(Tokens.WISH) || !tokens.takeNumber(MOST_WISH)) {
                return false;
            }
            int wish = tokens.value;
            if (!tokens.take(Tokens.AT) || !tokens.takeNumber(ROOMS - 1)) {
                return false;
            }
            int room = tokens.value;
            int doubt = 0;
            if (tokens.take(Tokens.DOUBT)) {
                if (!tokens.takeNumber(MOST_DOUBT)) {
                    return false;
                }
                doubt = tokens.value;
            }
            house.guests.add(room, wish, doubt, tokens.take(Tokens.KEY));
            return true;
        }

        private boolean readHole(House house) {
            if (!tokens.take(Tokens.HOLE) || !tokens.takeNumber(ROOMS - 1)) {
                return false;
            }
            int room = tokens.value;
            int number = tokens.at;
            if (!tokens.takeNumber(ROOMS - 1)) {
                return false;
            }
            if (tokens.value == room) {
                tokens.at = number;
                return false;
            }
            house.setHole(room, tokens.value, true);
            return true;
        }

        private boolean readShift(House house) {
            if (!tokens.take(Tokens.SHIFT) || !tokens.takeNumber(1)) {
                return false;
            }
            int calendar = tokens.value;
            if (!tokens.takeNumber(LAST_WEEK_DAY)) {
                return false;
            }
            house.setShift(calendar, tokens.value);
            return true;
        }

        private boolean readNumber(House house, int word, int most) {
            if (!tokens.take(word) || !tokens.takeNumber(most)) {
                return false;
            }
            switch (word) {
                case Tokens.BATH: house.bath = tokens.value; break;
                case Tokens.KEEP: house.kept = tokens.value; break;
                case Tokens.MASONS: house.masons = tokens.value; break;
                case Tokens.STONES: house.stones = tokens.value; break;
                case Tokens.BORE: house.bore = tokens.value; break;
                default: house.day = tokens.value; break;
            }
            return true;
        }
    }

    /** Reads a text of THE LAW into a draft, so that nothing of a wrong one stays. */
    private static final class LawReader {
        static final int LINES = 12;
        static final int MOST_TURN = 30;
        static final int DEEPEST = 6;

        final Tokens tokens;
        final Law draft;

        LawReader(Tokens tokens) {
            this.tokens = tokens;
            draft = new Law();
        }

        boolean read() {
            draft.length = 0;
            draft.lines = 0;
            if (tokens.kind() == Tokens.END) {
                return true;
            }
            do {
                if (draft.lines >= LINES || !readLine()) {
                    return false;
                }
                draft.lines++;
            } while (tokens.take(Tokens.SEMICOLON));
            return tokens.kind() == Tokens.END;
        }

        private boolean readLine() {
            int begin = tokens.kind() == Tokens.DOUBT ? Law.DOUBTS : Law.CALMS;
            if (!tokens.take(Tokens.DOUBT) && !tokens.take(Tokens.CALM)) {
                return false;
            }
            if (!tokens.takeNumber(MOST_TURN)) {
                return false;
            }
            int line = begin + tokens.value;
            if (!tokens.take(Tokens.IF)) {
                draft.put(1);
            } else if (!readAny(0)) {
                return false;
            }
            draft.put(line);
            return true;
        }

        /** C: of the parts one must hold. depth: how many ( and not stand open. */
        private boolean readAny(int depth) {
            if (!readAll(depth)) {
                return false;
            }
            for (int n = 0; n < TAPE && tokens.take(Tokens.OR); n++) {
                if (!readAll(depth)) {
                    return false;
                }
                draft.put(Law.OR);
            }
            return true;
        }

        private boolean readAll(int depth) {
            if (!readAtom(depth)) {
                return false;
            }
            for (int n = 0; n < TAPE && tokens.take(Tokens.AND); n++) {
                if (!readAtom(depth)) {
                    return false;
                }
                draft.put(Law.AND);
            }
            return true;
        }

        private boolean readAtom(int depth) {
            int kind = tokens.kind();
            if (kind == Tokens.KEY || kind == Tokens.EVE) {
                draft.put(Law.FACTS + kind - Tokens.GUEST);
                return tokens.take(kind);
            }
            if (kind == Tokens.NOT || kind == Tokens.OPEN) {
                if (depth >= DEEPEST || !tokens.take(kind)) {
                    return false;
                }
                if (kind == Tokens.OPEN) {
                    return readAny(depth + 1) && tokens.take(Tokens.CLOSE);
                }
                if (!readAtom(depth + 1)) {
                    return false;
                }
                draft.put(Law.NOT);
                return true;
            }
            if (!readSum()) {
                return false;
            }
            int compared = tokens.kind() == Tokens.LESS ? Law.LESS : Law.MORE;
            if (!tokens.take(Tokens.LESS) && !tokens.take(Tokens.MORE) || !readSum()) {
                return false;
            }
            draft.put(compared);
            return true;
        }

        private boolean readSum() {
            for (int parts = 0; parts < TAPE; parts++) {
                int kind = tokens.kind();
                if (tokens.takeNumber(MOST_TOLD)) {
                    draft.put(tokens.value);
                } else if (kind >= Tokens.GUEST && kind <= Tokens.WEEKS && tokens.take(kind)) {
                    draft.put(Law.FACTS + kind - Tokens.GUEST);
                } else {
                    return false;
                }
                if (parts > 0) {
                    draft.put(Law.PLUS);
                }
                if (!tokens.take(Tokens.PLUS)) {
                    return true;
                }
            }
            return false;
        }
    }

    /** THE LAW as steps over a stack: numbers and facts are put on it, signs join the two on top. */
    private static final class Law {
        // Steps below this are numbers; from here on one for each fact.
        static final int FACTS = 1000;
        static final int PLUS = 1010;
        static final int LESS = 1011;
        static final int MORE = 1012;
        static final int AND = 1013;
        static final int OR = 1014;
        static final int NOT = 1015;
        // The end of a LINE carries its N.
        static final int DOUBTS = 1100;
        static final int CALMS = 1200;
        // Seven levels of two waiting conditions each, and a comparison of sums, are far less.
        static final int DEEP = 32;

        final int[] steps = new int[TAPE];
        final int[] stack = new int[DEEP];
        int length;
        int top;
        int lines = NONE;

        void copy(Law from) {
            length = Math.max(0, Math.min(from.length, steps.length));
            System.arraycopy(from.steps, 0, steps, 0, length);
            lines = from.lines;
        }

        void put(int step) {
            if (length < steps.length) {
                steps[length] = step;
                length++;
            }
        }

        int turnsBy(int[] facts) {
            if (lines == NONE) {
                return 1;
            }
            int sum = 0;
            top = 0;
            for (int i = 0; i < length && i < steps.length; i++) {
                int step = steps[i];
                if (step >= CALMS) {
                    sum -= pop() != 0 ? step - CALMS : 0;
                } else if (step >= DOUBTS) {
                    sum += pop() != 0 ? step - DOUBTS : 0;
                } else if (step == NOT) {
                    push(pop() != 0 ? 0 : 1);
                } else if (step >= PLUS) {
                    int right = pop();
                    push(joined(step, pop(), right));
                } else {
                    push(step - FACTS >= 0 && step - FACTS < facts.length ? facts[step - FACTS] : step);
                }
            }
            return sum;
        }

        private static int joined(int step, int left, int right) {
            switch (step) {
                case PLUS: return left + right;
                case LESS: return left < right ? 1 : 0;
                case MORE: return left > right ? 1 : 0;
                case AND: return left != 0 && right != 0 ? 1 : 0;
                default: return left != 0 || right != 0 ? 1 : 0;
            }
        }

        private void push(int value) {
            if (top >= 0 && top < stack.length) {
                stack[top] = value;
                top++;
            }
        }

        private int pop() {
            if (top <= 0 || top > stack.length) {
                return 0;
            }
            top--;
            return stack[top];
        }
    }

    /** The GUESTS by their numbers; KEYS and who is HERE as sets. */
    private static final class Guests {
        final int[] rooms = new int[GUESTS];
        final int[] wishes = new int[GUESTS];
        final int[] doubts = new int[GUESTS];
        int count;
        int keys;
        int here;

        void copy(Guests from) {
            System.arraycopy(from.rooms, 0, rooms, 0, GUESTS);
            System.arraycopy(from.wishes, 0, wishes, 0, GUESTS);
            System.arraycopy(from.doubts, 0, doubts, 0, GUESTS);
            count = from.count;
            keys = from.keys;
            here = from.here;
        }

        void add(int room, int wish, int doubt, boolean key) {
            if (count < 0 || count >= GUESTS) {
                return;
            }
            rooms[count] = room;
            wishes[count] = wish;
            doubts[count] = doubt;
            keys = withMember(keys, count, key);
            here = withMember(here, count, true);
            count++;
        }

        private static boolean isNumber(int guest) {
            return guest >= 0 && guest < GUESTS;
        }

        int roomOf(int guest) {
            return isNumber(guest) ? rooms[guest] : NONE;
        }

        int wishOf(int guest) {
            return isNumber(guest) ? wishes[guest] : 0;
        }

        int doubtOf(int guest) {
            return isNumber(guest) ? doubts[guest] : 0;
        }

        void put(int guest, int room) {
            if (isNumber(guest)) {
                rooms[guest] = room;
            }
        }

        void setDoubt(int guest, int doubt) {
            if (isNumber(guest)) {
                doubts[guest] = Math.max(0, Math.min(MOST_DOUBT, doubt));
            }
        }

        int risk(int guest) {
            return doubtOf(guest) >= 50 ? wishOf(guest) : wishOf(guest) / 2;
        }

        int riskOf(int set) {
            int sum = 0;
            for (int g = 0; g < GUESTS; g++) {
                sum += holds(set, g) ? risk(g) : 0;
            }
            return sum;
        }

        int doubtHere() {
            int sum = 0;
            for (int g = 0; g < GUESTS; g++) {
                sum += holds(here, g) ? doubts[g] : 0;
            }
            return sum;
        }

        int spreadHere() {
            int least = MOST_DOUBT;
            int greatest = 0;
            for (int g = 0; g < GUESTS; g++) {
                if (holds(here, g)) {
                    least = Math.min(least, doubts[g]);
                    greatest = Math.max(greatest, doubts[g]);
                }
            }
            return here == 0 ? 0 : greatest - least;
        }

        int hereIn(int room) {
            int set = 0;
            for (int g = 0; g < GUESTS; g++) {
                set = withMember(set, g, holds(here, g) && rooms[g] == room);
            }
            return set;
        }

        int roomsHere() {
            int set = 0;
            for (int room = 0; room < ROOMS; room++) {
                set = withMember(set, room, hereIn(room) != 0);
            }
            return set;
        }

        /** The k-th GUEST HERE, from 0 on. */
        int lodger(int k) {
            int passed = 0;
            for (int g = 0; g < GUESTS; g++) {
                if (holds(here, g)) {
                    if (passed == k) {
                        return g;
                    }
                    passed++;
                }
            }
            return NONE;
        }
    }

    /** THE LOG: the latest looks, in a ring. */
    private static final class Book {
        static final int ROWS = 60;
        static final int CELLS = 4;

        final int[] cells = new int[ROWS * CELLS];
        int rows;
        int next;

        void copy(Book from) {
            System.arraycopy(from.cells, 0, cells, 0, cells.length);
            rows = from.rows;
            next = from.next;
        }

        void add(int day, int guest, int room, int bath) {
            int begin = next * CELLS;
            if (begin < 0 || begin + CELLS > cells.length) {
                return;
            }
            cells[begin] = day;
            cells[begin + 1] = guest;
            cells[begin + 2] = room;
            cells[begin + 3] = bath;
            next = (next + 1) % ROWS;
            rows = Math.min(ROWS, rows + 1);
        }

        int cell(int ago, int what) {
            if (ago < 0 || ago >= rows || what < 0 || what >= CELLS) {
                return NONE;
            }
            int cell = Math.floorMod(next - 1 - ago, ROWS) * CELLS + what;
            return cell < cells.length ? cells[cell] : NONE;
        }

        int rowsOf(int guest) {
            int found = 0;
            for (int ago = 0; ago < rows; ago++) {
                found += cell(ago, 1) == guest ? 1 : 0;
            }
            return found;
        }

        int latestDayOf(int guest) {
            for (int ago = 0; ago < rows; ago++) {
                if (cell(ago, 1) == guest) {
                    return cell(ago, 0);
                }
            }
            return NONE;
        }
    }

    /** All that an act may change and THE IMAGE keeps. */
    private static final class House {
        static final int FACTS = 9;

        final Guests guests = new Guests();
        final Book book = new Book();
        final Law law = new Law();
        final int[] holes = new int[ROOMS];
        final int[] facts = new int[FACTS];
        int oldShift = 0;
        int newShift = 3;
        int kept;
        int bath;
        int masons = 1;
        int stones = 100;
        int towers;
        int bore;
        int day;
        int seen;
        int seed = 1;
        int texts;

        void copy(House from) {
            guests.copy(from.guests);
            book.copy(from.book);
            law.copy(from.law);
            System.arraycopy(from.holes, 0, holes, 0, ROOMS);
            oldShift = from.oldShift;
            newShift = from.newShift;
            kept = from.kept;
            bath = from.bath;
            masons = from.masons;
            stones = from.stones;
            towers = from.towers;
            bore = from.bore;
            day = from.day;
            seen = from.seen;
            seed = from.seed;
            texts = from.texts;
        }

        int shiftOf(int calendar) {
            return calendar == 0 ? oldShift : newShift;
        }

        void setShift(int calendar, int shift) {
            if (calendar == 0) {
                oldShift = shift;
            } else {
                newShift = shift;
            }
        }

        boolean isSaturday(int calendar, int someDay) {
            return (someDay + shiftOf(calendar)) % WEEK == LAST_WEEK_DAY;
        }

        int untilSaturday(int calendar) {
            return LAST_WEEK_DAY - (day + shiftOf(calendar)) % WEEK;
        }

        /** By how many calendars it is SATURDAY in so many days. */
        int saturdaysAt(int n) {
            return (isSaturday(0, day + n) ? 1 : 0) + (isSaturday(1, day + n) ? 1 : 0);
        }

        int holesFrom(int room) {
            return isRoom(room) ? holes[room] : 0;
        }

        int holesInto(int room) {
            int set = 0;
            for (int from = 0; from < ROOMS; from++) {
                set = withMember(set, from, holds(holes[from], room));
            }
            return set;
        }

        int holesFromAny(int set) {
            int into = 0;
            for (int room = 0; room < ROOMS; room++) {
                into |= holds(set, room) ? holes[room] : 0;
            }
            return into;
        }

        int allHoles() {
            int sum = 0;
            for (int room = 0; room < ROOMS; room++) {
                sum += Integer.bitCount(holes[room]);
            }
            return sum;
        }

        void setHole(int room, int into, boolean bored) {
            if (isRoom(room) && isRoom(into)) {
                holes[room] = withMember(holes[room], into, bored);
            }
        }

        /** The ROOMS that one sees from a ROOM. */
        int sight(int room, boolean key) {
            int set = 1 << room | (isRoom(room) ? holes[room] : 0);
            if (key) {
                set |= 1 << (room + 1) % ROOMS | 1 << (room + ROOMS - 1) % ROOMS;
            }
            return set;
        }

        int spies(int guest) {
            return sight(guests.roomOf(guest), holds(guests.keys, guest));
        }

        int watchers(int room) {
            int set = 0;
            for (int g = 0; g < GUESTS; g++) {
                set = withMember(set, g, holds(guests.here, g) && holds(spies(g), room));
            }
            return set;
        }

        int turns(int guest) {
            facts[0] = guest;
            facts[1] = guests.roomOf(guest);
            facts[2] = guests.wishOf(guest);
            facts[3] = guests.doubtOf(guest);
            facts[4] = towers;
            facts[5] = Integer.bitCount(holesFrom(guests.roomOf(guest)));
            facts[6] = day / WEEK;
            facts[7] = holds(guests.keys, guest) ? 1 : 0;
            facts[8] = isSaturday(kept, day + 1) ? 1 : 0;
            return law.turnsBy(facts);
        }

        void liveDay() {
            turnDoubts(guests.here);
            if (isSaturday(kept, day)) {
                lookAtBath();
            }
            build();
            boreByNight();
            day = Math.min(MOST, day + 1);
        }

        /** A DAY of AHEAD; the doubts of the others need not be led on, as none looks at another's. */
        void foreseeDay(int whom) {
            turnDoubts(guests.here & whom);
            build();
            day = Math.min(MOST, day + 1);
        }

        private void turnDoubts(int whom) {
            for (int g = 0; g < GUESTS; g++) {
                if (holds(whom, g)) {
                    guests.setDoubt(g, guests.doubtOf(g) + turns(g));
                }
            }
        }

        private void lookAtBath() {
            int watchers = watchers(bath);
            for (int g = 0; g < GUESTS; g++) {
                if (holds(watchers, g) && draw() % 10 < guests.risk(g)) {
                    seen++;
                    guests.setDoubt(g, MOST_DOUBT);
                    book.add(day, g, guests.roomOf(g), bath);
                }
            }
        }

        void build() {
            int built = Math.min(masons, stones);
            towers = Math.min(MOST, towers + built);
            stones -= built;
        }

        private void boreByNight() {
            if (draw() % 100 < bore) {
                int room = draw() % ROOMS;
                setHole(room, (room + 1) % ROOMS, true);
            }
        }

        private int draw() {
            seed = 1103515245 * seed + 12345;
            return seed >>> 16 & 32767;
        }
    }

    /** The house as it was ahead of each of the latest acts, in a ring. */
    private static final class Past {
        static final int ACTS = 12;

        final House[] houses = new House[ACTS];
        int next;
        int count;

        Past() {
            for (int i = 0; i < houses.length; i++) {
                houses[i] = new House();
            }
        }

        void remember(House now) {
            House slot = next >= 0 && next < houses.length ? houses[next] : null;
            if (slot != null) {
                slot.copy(now);
                next = (next + 1) % ACTS;
                count = Math.min(ACTS, count + 1);
            }
        }

        boolean takeBack(House now) {
            int latest = (next + ACTS - 1) % ACTS;
            House slot = latest >= 0 && latest < houses.length ? houses[latest] : null;
            if (count == 0 || slot == null) {
                return false;
            }
            now.copy(slot);
            next = latest;
            count--;
            return true;
        }

        void forget() {
            count = 0;
        }
    }
}
