import java.lang.reflect.Constructor;
import java.lang.reflect.Field;
import java.lang.reflect.Method;
import java.lang.reflect.Modifier;
import java.util.Arrays;
import java.util.Set;
import java.util.TreeSet;

/** The public face, and the rules of the language about it that can be looked at from outside. */
public final class FaceTest {
    private static final String[] FACE = {
        "agree(int)", "ahead(int,int,int)", "alike()", "ask()", "back()", "bath(int)", "best()", "bored(boolean)", "both()",
        "buy(int)", "calendar(int,boolean)", "calm(int)", "come(int,boolean)", "count(int)", "crowd()", "days(int)", "end(int)",
        "fault()", "feed(int,int,int,int,int)", "first(int,int)", "go(int,int)", "gone()", "guest(int,int)",
        "hole(int,int,boolean)", "house()", "image()", "keenest()", "keep(int)", "key(int,boolean)", "law()",
        "led(int,boolean)", "line(int,int)", "locked()", "lodge(int)", "log(int,int)", "look()", "masons(int)", "mend()",
        "mutual()", "need(int)", "odds()", "pass(int,int)", "quiet()", "rests(int)", "room(int,int)", "saturday(int,int)",
        "saturdays(int)", "seed(int)", "send()", "sent(int)", "shifts()", "shut()", "span(int,boolean)", "spread(int)",
        "stand(int)", "trial(int,boolean)", "undo()", "well()",
    };

    public static void main(String[] args) {
        Class<?> face = SaturdayKeep.class;
        Check.due("public final", Modifier.PUBLIC | Modifier.FINAL, face.getModifiers());
        Set<String> publics = new TreeSet<>();
        Set<String> names = new TreeSet<>();
        for (Method m : face.getDeclaredMethods()) {
            if (Modifier.isPublic(m.getModifiers())) {
                String types = Arrays.toString(m.getParameterTypes()).replaceAll("[\\[\\] ]", "");
                publics.add(m.getName() + "(" + types + ")");
                names.add(m.getName());
            }
        }
        Check.yes("the face " + publics, publics.equals(new TreeSet<>(Arrays.asList(FACE))));
        for (Method m : face.getDeclaredMethods()) {
            boolean isPublic = Modifier.isPublic(m.getModifiers());
            Check.yes(m + " is public or private", isPublic || Modifier.isPrivate(m.getModifiers()));
            Check.yes(m + " bears a name of its own", isPublic || !names.contains(m.getName()));
            Check.yes(m + " takes at most seven parameters", m.getParameterCount() <= 7);
        }
        for (Field f : face.getDeclaredFields()) {
            Check.yes(f + " is private or NONE", f.getName().equals("NONE") || Modifier.isPrivate(f.getModifiers()));
        }
        for (Constructor<?> c : face.getDeclaredConstructors()) {
            Check.yes(c + " is the public one", Modifier.isPublic(c.getModifiers()) && c.getParameterCount() == 0);
        }
        classes(face);
        Check.end("FaceTest");
    }

    private static void classes(Class<?> face) {
        Check.yes("some twelve classes", face.getDeclaredClasses().length < 12);
        for (Class<?> inside : face.getDeclaredClasses()) {
            Check.yes(inside + " is static and not public",
                    Modifier.isStatic(inside.getModifiers()) && !Modifier.isPublic(inside.getModifiers()));
            int fields = 0;
            for (Field f : inside.getDeclaredFields()) {
                if (Modifier.isStatic(f.getModifiers())) {
                    Check.yes(f + " is a constant", Modifier.isFinal(f.getModifiers()));
                } else {
                    fields++;
                }
            }
            Check.yes(inside + " has some twenty fields", fields <= 20);
        }
    }
}
