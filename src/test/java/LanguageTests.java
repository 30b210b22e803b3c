import java.io.IOException;
import java.lang.reflect.Constructor;
import java.lang.reflect.Field;
import java.lang.reflect.Method;
import java.lang.reflect.Modifier;
import java.nio.file.Files;
import java.nio.file.Path;
import java.util.HashSet;
import java.util.Set;
import java.util.TreeSet;
import java.util.regex.Matcher;
import java.util.regex.Pattern;

/** Those rules of LANGUAGE.md that can be seen from the class's text and its compiled form. */
final class LanguageTests {
    private static final Set<String> FACE = Set.of("feed(int,long)", "wall()", "fault()", "told(int)", "kind(int,int)",
            "passes(int)", "bare(int,int)", "paste(int,int,int)", "days(int)", "above(int,int)", "bill(int,int)",
            "over(int)", "free(int)", "reveal(int)", "peel(int)", "tear(int,int)", "rain(int)", "owner(int,int)",
            "show(int,int,int)", "look(int,int,int)", "burn()", "orders()", "order(int)", "surely(int,int)",
            "best(int,int)", "two(int,int,int)", "rivals(int,int,int,int)", "seed(int)", "keep(int)", "goBack(int)");

    private LanguageTests() {
    }

    public static void main(String[] args) throws IOException {
        face();
        names();
        statics();
        sizes();
        words();
        Due.end("LanguageTests");
    }

    private static void face() {
        Due.due("public final", Modifier.PUBLIC | Modifier.FINAL, BillWall.class.getModifiers());
        Constructor<?>[] made = BillWall.class.getDeclaredConstructors();
        Due.due("one constructor", 1, made.length);
        Due.due("a public one without parameters", 1, Modifier.isPublic(made[0].getModifiers())
                && made[0].getParameterCount() == 0 ? 1 : 0);
        Set<String> seen = new TreeSet<>();
        for (Method method : BillWall.class.getDeclaredMethods()) {
            if (!Modifier.isPrivate(method.getModifiers())) {
                String call = method.toString().replaceAll("^.*BillWall\\.", "");
                seen.add(call);
                due(call, FACE.contains(call) && method.getReturnType() == int.class);
            }
        }
        Due.due("the whole face", FACE.size(), seen.size());
        Set<String> constants = Set.of("NONE", "UNKNOWN", "OUTSIDE", "NOT", "FULL");
        for (Field field : BillWall.class.getDeclaredFields()) {
            due(field.getName(), constants.contains(field.getName()) != Modifier.isPrivate(field.getModifiers()));
        }
    }

    private static void due(String what, boolean holds) {
        Due.due(what, 1, holds ? 1 : 0);
    }

    private static void names() {
        for (Class<?> one : all()) {
            for (Method method : one.getDeclaredMethods()) {
                boolean named = FACE.stream().anyMatch(call -> call.startsWith(method.getName() + "("));
                due(one + " " + method.getName(), named == Modifier.isPublic(method.getModifiers()));
            }
        }
    }

    private static Set<Class<?>> all() {
        Set<Class<?>> all = new HashSet<>(Set.of(BillWall.class.getDeclaredClasses()));
        all.add(BillWall.class);
        return all;
    }

    private static void statics() {
        for (Class<?> one : all()) {
            due(one + " is static", one == BillWall.class || Modifier.isStatic(one.getModifiers()));
            for (Field field : one.getDeclaredFields()) {
                due(one + " " + field.getName(),
                        !Modifier.isStatic(field.getModifiers()) || Modifier.isFinal(field.getModifiers()));
            }
        }
    }

    private static void sizes() {
        due("classes", all().size() <= 12);
        for (Class<?> one : all()) {
            long fields = 0;
            for (Field field : one.getDeclaredFields()) {
                fields += Modifier.isStatic(field.getModifiers()) ? 0 : 1;
            }
            due(one + " fields", fields <= 20);
            for (Method method : one.getDeclaredMethods()) {
                due(method + " parameters", method.getParameterCount() <= 7);
            }
        }
    }

    private static void words() throws IOException {
        String text = Files.readString(Path.of("src/main/java/BillWall.java"));
        String code = text.replaceAll("(?s)/\\*.*?\\*/", "").replaceAll("//[^\n]*", "");
        Matcher banned = Pattern.compile("\\b(throws?|try|catch|finally|synchronized|assert|System\\.(?!arraycopy)\\w+"
                + "|Random|Thread|\\w+Exact|equals|hashCode|toString|package)\\b|->|::|@\\w+").matcher(code);
        while (banned.find()) {
            due("the word " + banned.group(), false);
        }
        Matcher imports = Pattern.compile("import ([^;]*);").matcher(code);
        while (imports.find()) {
            due("import " + imports.group(1), imports.group(1).equals("java.util.Arrays"));
        }
        // all rooms are made with the object: a call makes none, so that no run can fill the room
        Matcher made = Pattern.compile("\n([^\n]*)\\bnew\\b[^\n]*").matcher(code);
        while (made.find()) {
            due("made by a call: " + made.group().trim(), made.group(1).matches(".*(private|=) .*"));
        }
        due("signs of 1 to 127 alone", text.chars().allMatch(sign -> sign >= 1 && sign < 128));
    }
}
