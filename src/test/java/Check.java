import java.io.IOException;
import java.nio.charset.StandardCharsets;
import java.nio.file.Files;
import java.nio.file.Path;

/** What the tests share: telling texts to a house, and counting answers that are not as due. */
final class Check {
    private static int passed = 0;
    private static int failed = 0;
    private static String document = null;

    private Check() {
    }

    static void due(String call, long want, long got) {
        if (got == want) {
            passed++;
        } else {
            failed++;
            System.out.println(call + " answered " + got + ", due is " + want);
        }
    }

    /** The sentence that is tested next: it must stand in the document as it is told here, where that can be read. */
    static void says(String sentence) {
        if (document == null) {
            document = oneLine(read(Path.of("..", "shared", "DOC.md")));
        }
        if (!document.isEmpty()) {
            yes("the document says: " + sentence, document.contains(oneLine(sentence)));
        }
    }

    private static String read(Path file) {
        try {
            return Files.readString(file);
        } catch (IOException e) {
            System.out.println(file + " can't be read: no sentence is looked for in it");
            return "";
        }
    }

    private static String oneLine(String text) {
        return text.replaceAll("\\s+", " ");
    }

    static void yes(String call, boolean got) {
        due(call, 1, got ? 1 : 0);
    }

    static void no(String call, boolean got) {
        due(call, 0, got ? 1 : 0);
    }

    /** The exception must be just of this class: a machine's own one is of a class below. */
    static void thrown(String call, Class<? extends RuntimeException> want, Runnable run) {
        try {
            run.run();
        } catch (RuntimeException e) {
            if (e.getClass() == want) {
                passed++;
            } else {
                failed++;
                System.out.println(call + " threw " + e + ", due is " + want.getName());
            }
            return;
        }
        failed++;
        System.out.println(call + " threw nothing, due is " + want.getName());
    }

    static void outside(String call, Runnable run) {
        thrown(call, IndexOutOfBoundsException.class, run);
    }

    static void wrong(String call, Runnable run) {
        thrown(call, IllegalArgumentException.class, run);
    }

    static void noSuch(String call, Runnable run) {
        thrown(call, java.util.NoSuchElementException.class, run);
    }

    /** Puts bytes on a tape that is empty. */
    static void tape(SaturdayKeep keep, int... bytes) {
        for (int i = 0; i < bytes.length; i += 20) {
            int[] numbers = new int[5];
            for (int j = 0; j < 20; j++) {
                int sign = i + j < bytes.length ? bytes[i + j] : 0;
                numbers[j / 4] = numbers[j / 4] << 8 | sign & 255;
            }
            keep.feed(numbers[0], numbers[1], numbers[2], numbers[3], numbers[4]);
        }
        keep.end(bytes.length);
    }

    static void tape(SaturdayKeep keep, String text) {
        byte[] bytes = text.getBytes(StandardCharsets.ISO_8859_1);
        int[] signs = new int[bytes.length];
        for (int i = 0; i < bytes.length; i++) {
            signs[i] = bytes[i];
        }
        tape(keep, signs);
    }

    /** The draws that come from a seed, as the document tells them. */
    static int[] draws(int seed, int n) {
        int[] draws = new int[n];
        long s = seed;
        for (int i = 0; i < n; i++) {
            s = s * 1103515245L + 12345 & 0xffffffffL;
            draws[i] = (int) (s / 65536 % 32768);
        }
        return draws;
    }

    /** The seed behind so many draws. */
    static int seedAfter(int seed, int n) {
        int s = seed;
        for (int i = 0; i < n; i++) {
            s = s * 1103515245 + 12345;
        }
        return s;
    }

    /** The same line so many times over, as a text. */
    static String times(int n, String line) {
        return String.join(";", java.util.Collections.nCopies(n, line));
    }

    static int house(SaturdayKeep keep, String text) {
        tape(keep, text);
        return keep.house();
    }

    static int law(SaturdayKeep keep, String text) {
        tape(keep, text);
        return keep.law();
    }

    static SaturdayKeep with(String house) {
        SaturdayKeep keep = new SaturdayKeep();
        house(keep, house);
        return keep;
    }

    static SaturdayKeep with(String house, String law) {
        SaturdayKeep keep = with(house);
        law(keep, law);
        return keep;
    }

    static void end(String test) {
        System.out.println(test + ": " + passed + " passed, " + failed + " failed");
        if (failed > 0) {
            System.exit(1);
        }
    }
}
