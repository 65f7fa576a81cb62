import java.lang.reflect.Constructor;
import java.lang.reflect.Field;
import java.lang.reflect.Method;
import java.lang.reflect.Modifier;
import java.nio.file.Files;
import java.nio.file.Path;
import java.util.Arrays;
import java.util.Set;
import java.util.TreeSet;
import java.util.regex.Matcher;
import java.util.regex.Pattern;

/** The public face, and the rules of the language about it that can be looked at from outside. */
public final class FaceTest {
    private static final String[] FACE = {
        "agree(int)", "ahead(int,int,int)", "alike()", "ask()", "back()", "bath(int)", "best()", "bored(boolean)", "both()",
        "buy(int)", "calendar(int,boolean)", "calm(int)", "come(int,boolean)", "count(int)", "crowd()", "days(int)", "end(int)",
        "fault()", "feed(int,int,int,int,int)", "first(int,int)", "go(int,int)", "gone()", "guest(int,int)",
        "hole(int,int,boolean)", "house()", "image()", "keenest()", "keep(int)", "key(int,boolean)", "law()",
        "led(int,boolean)", "line(int,int)", "locked()", "lodge(int)", "log(int,int)", "look()", "masons(int)", "mend()",
        "mutual()", "need(int)", "odds()", "pass(int,int)", "quiet()", "rests(int)", "room(int,int)", "saturday(int,int)",
        "saturdays(int)", "seed(int)", "send()", "sent(int)", "shifts()", "shut()", "span(int,boolean)", "spread(int)",
        "stand(int)", "trial(int,boolean)", "undo()", "well()",
    };

    public static void main(String[] args) throws Exception {
        Class<?> face = SaturdayKeep.class;
        Check.due("public final", Modifier.PUBLIC | Modifier.FINAL, face.getModifiers());
        Set<String> publics = new TreeSet<>();
        Set<String> names = new TreeSet<>();
        for (Method m : face.getDeclaredMethods()) {
            if (Modifier.isPublic(m.getModifiers())) {
                String types = Arrays.toString(m.getParameterTypes()).replaceAll("[\\[\\] ]", "");
                publics.add(m.getName() + "(" + types + ")");
                names.add(m.getName());
            }
        }
        Check.yes("the face " + publics, publics.equals(new TreeSet<>(Arrays.asList(FACE))));
        for (Method m : face.getDeclaredMethods()) {
            boolean isPublic = Modifier.isPublic(m.getModifiers());
            Check.yes(m + " is public or private", isPublic || Modifier.isPrivate(m.getModifiers()));
            Check.yes(m + " bears a name of its own", isPublic || !names.contains(m.getName()));
            Check.yes(m + " takes at most seven parameters", m.getParameterCount() <= 7);
        }
        for (Field f : face.getDeclaredFields()) {
            Check.yes(f + " is private or NONE", f.getName().equals("NONE") || Modifier.isPrivate(f.getModifiers()));
        }
        for (Constructor<?> c : face.getDeclaredConstructors()) {
            Check.yes(c + " is the public one", Modifier.isPublic(c.getModifiers()) && c.getParameterCount() == 0);
        }
        classes(face);
        asWritten();
        Check.end("FaceTest");
    }

    /** Each line of the face stands in the source just as the document has it: answer, names and exceptions, too. */
    private static void asWritten() throws Exception {
        Path document = Path.of("..", "shared", "DOC.md");
        if (!Files.isReadable(document)) {
            System.out.println(document + " can't be read: the face is not compared with it");
            return;
        }
        String source = oneLine(Path.of("src", "main", "java", "SaturdayKeep.java"));
        Matcher face = Pattern.compile("```java (.*?) ```").matcher(oneLine(document));
        Check.yes("the document has a face", face.find());
        String[] lines = face.group(1).split(";");
        int members = 0;
        for (String line : lines) {
            int begin = line.indexOf("public ", line.contains("{") ? line.indexOf('{') : 0);
            if (begin >= 0) {
                String member = line.substring(begin);
                members++;
                Check.yes("the face has " + member, source.contains(member + (member.contains("=") ? ";" : " {")));
            }
        }
        Check.due("members of the face: NONE, the constructor, and the methods", FACE.length + 2, members);
    }

    private static String oneLine(Path file) throws Exception {
        return Files.readString(file).replaceAll("\\s+", " ");
    }

    private static void classes(Class<?> face) {
        Check.yes("some twelve classes", face.getDeclaredClasses().length < 12);
        for (Class<?> inside : face.getDeclaredClasses()) {
            Check.yes(inside + " is static and not public",
                    Modifier.isStatic(inside.getModifiers()) && !Modifier.isPublic(inside.getModifiers()));
            int fields = 0;
            for (Field f : inside.getDeclaredFields()) {
                if (Modifier.isStatic(f.getModifiers())) {
                    Check.yes(f + " is a constant", Modifier.isFinal(f.getModifiers()));
                } else {
                    fields++;
                }
            }
            Check.yes(inside + " has some twenty fields", fields <= 20);
        }
    }
}
