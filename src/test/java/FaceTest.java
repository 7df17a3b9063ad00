import java.lang.reflect.Constructor;
import java.lang.reflect.Field;
import java.lang.reflect.Member;
import java.lang.reflect.Method;
import java.lang.reflect.Modifier;
import java.nio.file.Files;
import java.nio.file.Path;
import java.util.Arrays;
import java.util.Set;
import java.util.TreeSet;
import java.util.regex.Matcher;
import java.util.regex.Pattern;

/** The document's public face, and those rules of LANGUAGE.md that can be seen from outside or in the text. */
final class FaceTest {
    private static final Check check = new Check("FaceTest");
    private static final Set<String> FACE = new TreeSet<>(Arrays.asList(
        "int ride 4", "int ofRider 2", "int slope 1", "int tilt 2", "int seat 1", "int wish 2", "int gain 2",
        "int age 2", "int sit 5", "int way 2", "int spread 1", "int agree 3", "int most 0", "int reading 3",
        "int back 1", "int slopes 1", "int kinds 1", "int began 2", "long odds 3", "int sheet 3", "int lose 1",
        "int put 3", "long cell 3", "int copy 5", "int tell 1", "int ring 1", "int as 2", "int trace 0",
        "int fault 0", "int many 1"));

    public static void main(String[] args) throws Exception {
        constants();
        methods();
        restIsPrivate();
        classesInside();
        sourceKeepsToItsRules(Files.readString(Path.of("src/main/java/YearDeck.java")));
        check.end();
    }

    private static void constants() {
        check.due("UNKNOWN", YearDeck.UNKNOWN, -1);
        check.due("OUTSIDE", YearDeck.OUTSIDE, -2);
        check.due("STATE", YearDeck.STATE, -3);
        check.due("FULL", YearDeck.FULL, -4);
        check.due("NONE", YearDeck.NONE, -9);
        check.due("LOST", YearDeck.LOST, Long.MIN_VALUE);
    }

    private static void methods() {
        Set<String> found = new TreeSet<>();
        for (Method m : YearDeck.class.getDeclaredMethods()) {
            if (Modifier.isPublic(m.getModifiers())) {
                found.add(m.getReturnType() + " " + m.getName() + " " + m.getParameterCount());
                check.holds(m + " is of the object", !Modifier.isStatic(m.getModifiers()));
                check.holds(m + " takes ints", Arrays.stream(m.getParameterTypes()).allMatch(t -> t == int.class));
            }
        }
        check.holds("the face is " + FACE + ", found " + found, FACE.equals(found));
        check.holds("public and final", Modifier.isPublic(YearDeck.class.getModifiers())
            && Modifier.isFinal(YearDeck.class.getModifiers()));
        Constructor<?>[] made = YearDeck.class.getDeclaredConstructors();
        check.due("one constructor", made.length, 1);
        check.holds("public, of nothing", Modifier.isPublic(made[0].getModifiers()) && made[0].getParameterCount() == 0);
    }

    private static void restIsPrivate() {
        Set<String> shown = new TreeSet<>();
        for (Field f : YearDeck.class.getDeclaredFields()) {
            if (!Modifier.isPrivate(f.getModifiers())) {
                shown.add(f.getName());
            }
            check.holds(f + ": static is final", finalIfStatic(f));
        }
        check.holds("no other field is shown: " + shown,
            shown.equals(new TreeSet<>(Arrays.asList("UNKNOWN", "OUTSIDE", "STATE", "FULL", "NONE", "LOST"))));
        for (Method m : YearDeck.class.getDeclaredMethods()) {
            boolean open = Modifier.isPublic(m.getModifiers());
            check.holds(m + " is public or private", open || Modifier.isPrivate(m.getModifiers()));
            check.holds(m + " bears no public one's name", open || !isPublicName(m.getName()));
        }
    }

    private static void classesInside() {
        for (Class<?> inside : YearDeck.class.getDeclaredClasses()) {
            check.holds(inside + " is static", Modifier.isStatic(inside.getModifiers()));
            check.holds(inside + " is not public", !Modifier.isPublic(inside.getModifiers()));
            for (Field f : inside.getDeclaredFields()) {
                check.holds(f + ": static is final", finalIfStatic(f));
            }
            for (Method m : inside.getDeclaredMethods()) {
                check.holds(m + " bears no public one's name", !isPublicName(m.getName()));
                check.holds(m + " has seven parameters at most", m.getParameterCount() <= 7);
            }
        }
    }

    private static void sourceKeepsToItsRules(String source) {
        String code = source.replaceAll("(?s)/\\*.*?\\*/", " ").replaceAll("//[^\n]*", " ");
        Matcher banned = Pattern.compile("\\b(throw|throws|try|catch|synchronized|assert|import|package|\\w+Exact"
            + "|System\\.(?!arraycopy)\\w+|Random|Thread|Object|equals|hashCode|toString)\\b|->|::|static\\s*\\{")
            .matcher(code);
        check.holds("no word outside the rules", !banned.find());
        check.holds("signs 1 to 127 alone", source.chars().allMatch(c -> c > 0 && c < 128));
    }

    private static boolean finalIfStatic(Member member) {
        return !Modifier.isStatic(member.getModifiers()) || Modifier.isFinal(member.getModifiers());
    }

    private static boolean isPublicName(String name) {
        return FACE.stream().anyMatch(line -> line.split(" ")[1].equals(name));
    }
}
