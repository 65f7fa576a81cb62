import java.lang.reflect.InvocationTargetException;
import java.lang.reflect.Method;
import java.lang.reflect.Modifier;
import java.nio.charset.StandardCharsets;
import java.util.ArrayList;
import java.util.Arrays;
import java.util.HashMap;
import java.util.List;
import java.util.Map;
import java.util.Random;

/** Many runs of calls by chance (of fixed seeds), each answer against that of the Model. */
public final class ModelTest {
    private static final int RUNS = Integer.getInteger("runs", 400);
    private static final int CALLS = 512;

    private final Random random;
    private final SaturdayKeep keep = new SaturdayKeep();
    private final Model model = new Model();
    private final Map<String, Method> ofKeep = new HashMap<>();
    private final Map<String, Method> ofModel = new HashMap<>();
    private final List<String> told = new ArrayList<>();
    private int calls = 0;
    private boolean parted = false;

    private ModelTest(long seed) {
        random = new Random(seed);
        for (Method m : SaturdayKeep.class.getDeclaredMethods()) {
            if (Modifier.isPublic(m.getModifiers())) ofKeep.put(m.getName(), m);
        }
        for (Method m : Model.class.getDeclaredMethods()) {
            if (Modifier.isPublic(m.getModifiers())) ofModel.put(m.getName(), m);
        }
    }

    private static String answer(Object on, Method method, Object[] args) {
        try {
            return String.valueOf(method.invoke(on, args));
        } catch (InvocationTargetException e) {
            return e.getCause().getClass().getName();
        } catch (IllegalAccessException e) {
            throw new IllegalStateException(e);
        }
    }

    private void call(String name, Object... args) {
        if (calls >= CALLS || parted) return;
        calls++;
        String got = answer(keep, ofKeep.get(name), args);
        String want = answer(model, ofModel.get(name), args);
        told.add(name + Arrays.toString(args) + " -> " + got);
        if (!got.equals(want)) {
            parted = true;
            System.out.println(String.join("\n", told.subList(Math.max(0, told.size() - 40), told.size())));
            System.out.println("  due by the model: " + want);
        }
    }

    private int below(int n) {
        return random.nextInt(n);
    }

    /** Mostly within 0 to most, now and then beside it. */
    private int about(int least, int most) {
        switch (below(30)) {
            case 0: return least - 1;
            case 1: return most + 1;
            case 2: return least;
            case 3: return most;
            case 4: return random.nextInt();
            default: return least + below(most - least + 1);
        }
    }

    private void tape(byte[] bytes) {
        for (int i = 0; i < bytes.length; i += 20) {
            int[] n = new int[5];
            for (int j = 0; j < 20; j++) n[j / 4] = n[j / 4] << 8 | (i + j < bytes.length ? bytes[i + j] & 255 : 0);
            call("feed", n[0], n[1], n[2], n[3], n[4]);
        }
        call("end", bytes.length);
    }

    private String pick(String... of) {
        return of[below(of.length)];
    }

    private String number(int most) {
        if (below(200) == 0) return pick("1000", "0001", String.valueOf(most + 1), "");
        String n = String.valueOf(below(most + 1));
        return below(12) == 0 && n.length() < 3 ? "0" + n : n;
    }

    private String blanks() {
        return pick(" ", " ", " ", " ", "  ");
    }

    private String houseLine(boolean guests) {
        switch (below(guests ? 14 : 9)) {
            case 0: case 1: return "hole " + number(7) + blanks() + number(7);
            case 2: return "bath " + number(7);
            case 3: return "shift " + number(1) + blanks() + number(6);
            case 4: return "keep " + number(1);
            case 5: return "masons" + pick("", " ") + number(9);
            case 6: return "stones " + number(below(2) == 0 ? 30 : 999);
            case 7: return "bore " + number(100);
            case 8: return "day " + number(999);
            default: return "guest wish " + number(10) + pick("", " ") + "at " + number(7)
                    + (below(2) == 0 ? " doubt " + number(99) : "") + (below(3) == 0 ? " key" : "");
        }
    }

    private String condition(int deep) {
        StringBuilder text = new StringBuilder(atom(deep));
        while (below(3) == 0 && text.length() < 60) text.append(pick(" and ", " or ")).append(atom(deep));
        return text.toString();
    }

    private String atom(int deep) {
        int kind = below(deep > 6 ? 4 : 9);
        if (kind == 0) return "key";
        if (kind == 1) return "eve";
        if (kind < 6) return sum() + pick("<", ">", " < ", " > ") + sum();
        if (kind < 8) return "not " + atom(deep + 1);
        return "(" + condition(deep + 1) + ")";
    }

    private String sum() {
        StringBuilder text = new StringBuilder();
        do {
            if (text.length() > 0) text.append(pick("+", " + "));
            text.append(below(3) == 0 ? number(pick("9", "99", "999").length() == 1 ? 9 : 99)
                    : pick("guest", "room", "wish", "doubted", "towers", "holes", "week"));
        } while (below(4) == 0 && text.length() < 50);
        return text.toString();
    }

    private String lawLine() {
        String line = pick("doubt ", "doubt ", "calm ") + number(below(3) == 0 ? 30 : 4);
        return below(4) == 0 ? line : line + " if " + condition(0);
    }

    private String spoilt(String text) {
        if (below(4) != 0 || text.isEmpty()) return text;
        StringBuilder s = new StringBuilder(text);
        int at = below(s.length());
        switch (below(5)) {
            case 0: s.deleteCharAt(at); break;
            case 1: s.insert(at, (char) below(256)); break;
            case 2: s.insert(at, pick(" ", ";", "(", ")", "not ", " key", "<", "+", "7", "x")); break;
            case 3: s.setLength(at); break;
            default: s.setCharAt(at, (char) (32 + below(95))); break;
        }
        return s.toString();
    }

    private void text(String name, boolean guests) {
        StringBuilder text = new StringBuilder();
        int lines = below(12) == 0 ? below(16) : 1 + below(6);
        for (int i = 0; i < lines; i++) {
            String line = name.equals("house") ? houseLine(guests) : lawLine();
            if (text.length() + line.length() > 390) break;
            if (i > 0) text.append(pick(";", "; ", " ; "));
            text.append(line);
        }
        tape(spoilt(text.toString()).getBytes(StandardCharsets.ISO_8859_1));
        call(name);
        call("fault");
    }

    private void told(String name, int most) {
        byte[] bytes = new byte[2 * below(below(10) == 0 ? 22 : 4)];
        int truth = below(most + 1);
        for (int i = 0; i + 1 < bytes.length; i += 2) {
            bytes[i] = (byte) about(0, most);
            bytes[i + 1] = (byte) (most == 6 ? (bytes[i] == truth ? 1 : 0) : bytes[i] >= truth ? 1 : 0);
            if (below(25) == 0) bytes[i + 1] = (byte) below(4);
        }
        tape(below(15) == 0 ? Arrays.copyOf(bytes, bytes.length + 1) : bytes);
        if (name.equals("bored")) {
            call(name, random.nextBoolean());
        } else {
            call(name);
        }
    }

    private void act() {
        switch (below(12)) {
            case 0: call("go", about(0, 7), about(0, 7)); break;
            case 1: call("come", about(0, 7), below(3) != 0); break;
            case 2: call("key", about(0, 7), random.nextBoolean()); break;
            case 3: case 4: call("hole", about(0, 7), about(0, 7), below(3) != 0); break;
            case 5: call("bath", about(0, 7)); break;
            case 6: call("keep", about(0, 1)); break;
            case 7: call("masons", about(0, 9)); break;
            case 8: call("buy", about(1, below(2) == 0 ? 20 : 999)); break;
            case 9: call("calm", about(0, 7)); break;
            default: call("days", about(1, below(3) == 0 ? 60 : 9)); break;
        }
    }

    private void question() {
        switch (below(24)) {
            case 0: call("ahead", about(0, 5), about(0, 400), about(0, 2)); break;
            case 1: call("saturdays", about(0, 400)); break;
            case 2: call("agree", about(0, 400)); break;
            case 3: call("first", about(0, 5), about(1, 99)); break;
            case 4: call("stand", about(1, below(2) == 0 ? 300 : 9999)); break;
            case 5: call("need", about(1, below(2) == 0 ? 300 : 9999)); break;
            case 6: call("spread", about(0, 400)); break;
            case 7: call("sent", about(0, 9999)); break;
            case 8: case 9: call("lodge", about(-1, 8)); break;
            case 10: call("rests", about(0, 7)); break;
            case 11: call("line", about(0, 7), about(0, 7)); break;
            case 12: call("pass", about(0, 7), about(0, 7)); break;
            case 13: call("trial", about(0, 60), random.nextBoolean()); break;
            case 14: call("span", about(0, 60), random.nextBoolean()); break;
            case 15: call("led", about(0, 7), random.nextBoolean()); break;
            case 16: call("log", about(0, 60), about(0, 3)); break;
            case 17: call("calendar", about(0, 1), random.nextBoolean()); break;
            case 18: call("saturday", about(0, 1), about(0, 9999)); break;
            case 19: call("guest", about(0, 7), about(0, 8)); break;
            case 20: call("room", about(0, 7), about(0, 3)); break;
            default: call(pick("both", "gone", "odds", "send", "mend", "shut", "quiet", "best", "keenest",
                    "alike", "well", "crowd", "locked", "mutual", "fault")); break;
        }
    }

    private void step() {
        switch (below(40)) {
            case 0: text("house", below(8) == 0); break;
            case 1: text("law", false); break;
            case 2: told("shifts", 6); break;
            case 3: told("ask", 6); break;
            case 4: told("bored", 51); break;
            case 5: told("look", 51); break;
            case 6: call("seed", random.nextInt()); break;
            case 7: call("image"); break;
            case 8: if (below(3) == 0) call("back"); break;
            case 9: case 10: case 11: call("undo"); break;
            case 12: case 13: case 14: call("count", about(0, 15)); break;
            case 15: call("feed", random.nextInt(), random.nextInt(), 1, 2, 3); break;
            case 16: call("end", about(0, 30)); break;
            case 17: case 18: case 19: case 20: case 21: case 22: case 23: act(); break;
            default: question(); break;
        }
    }

    /** A first text that is right, of a house with something going on in it. */
    private void firstText() {
        StringBuilder text = new StringBuilder("bath " + below(8) + ";keep " + below(2) + ";bore " + below(40));
        for (int g = below(9); g > 0; g--) {
            text.append(";guest wish ").append(below(11)).append(" at ").append(below(8));
            if (below(2) == 0) text.append(" doubt ").append(below(100));
            if (below(3) == 0) text.append(" key");
        }
        for (int h = below(4); h > 0; h--) {
            int room = below(8);
            text.append(";hole ").append(room).append(' ').append((room + 1 + below(7)) % 8);
        }
        tape(text.toString().getBytes(StandardCharsets.ISO_8859_1));
        call("house");
    }

    private boolean run() {
        firstText();
        if (below(3) != 0) text("house", true);
        if (below(3) != 0) text("law", false);
        while (calls < CALLS - 16 && !parted) step();
        for (int what = 0; what < 16; what++) call("count", what);
        return !parted;
    }

    /** Days, stones and towers by the largest steps, up to where they rest. */
    private boolean farRun() {
        firstText();
        if (random.nextBoolean()) text("law", false);
        call("masons", 9);
        while (calls < CALLS - 30 && !parted) {
            call("days", 60);
            if (calls % 2 == 0) call("buy", 999);
            if (calls % 5 == 0) question();
            if (calls % 11 == 0) call("guest", below(4), 6);
            if (calls % 13 == 0) call("calm", below(4));
            if (calls % 29 == 0) call("undo");
        }
        for (int what = 0; what < 16; what++) call("count", what);
        return !parted;
    }

    public static void main(String[] args) {
        int bad = 0;
        for (int i = 0; i < RUNS && bad < 3; i++) {
            ModelTest test = new ModelTest(1000 + i);
            if (!(i % 20 == 19 ? test.farRun() : test.run())) {
                bad++;
                System.out.println("run of seed " + (1000 + i) + " parts from the model");
            }
        }
        Check.due("runs that part from the model", 0, bad);
        Check.end("ModelTest");
    }
}
