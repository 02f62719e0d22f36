import java.lang.reflect.Constructor;
import java.lang.reflect.Field;
import java.lang.reflect.Method;
import java.lang.reflect.Modifier;
import java.nio.file.Files;
import java.nio.file.Path;
import java.util.Arrays;
import java.util.Set;
import java.util.TreeSet;
import java.util.regex.Matcher;
import java.util.regex.Pattern;

/** The class's face is the document's, and its text keeps to the rules of LANGUAGE.md that a test can see. */
public final class LanguageTest {
    private static final Due due = new Due("LanguageTest");
    private static final Path SOURCE = Path.of("src/main/java/SistersBoard.java");
    private static final String FACE = "feed5 end1 board0 fault0 lever2 line2 out1 way2 now1 call4 hang1 turn1 jam1 free1 "
        + "hours1 undo0 shifts2 sets0 setting0 orders0 deaf0 deafAt0 key0 faulty0 trial0 hears1 share2 slip1 byteAt1 "
        + "drawn2 odds3 book1 told1 sentence0 said1 image1 restore1 count1";

    public static void main(String[] args) throws Exception {
        face();
        nested();
        text();
        due.close();
    }

    private static void face() {
        Set<String> seen = new TreeSet<>();
        for (Method m : SistersBoard.class.getDeclaredMethods()) {
            if (Modifier.isPublic(m.getModifiers())) {
                seen.add(m.getName() + m.getParameterCount());
                boolean truth = Set.of("end", "image", "restore").contains(m.getName());
                due.is(m.getName() + " answers", m.getReturnType() == (truth ? boolean.class : int.class), true);
            } else {
                due.is(m.getName() + " is private", Modifier.isPrivate(m.getModifiers()), true);
            }
        }
        due.is("methods " + seen, seen.equals(new TreeSet<>(Arrays.asList(FACE.split(" ")))), true);
        Constructor<?>[] made = SistersBoard.class.getDeclaredConstructors();
        due.is("one constructor", made.length, 1);
        due.is("without parameters", made[0].getParameterCount(), 0);
        for (Field f : SistersBoard.class.getDeclaredFields()) {
            due.is(f.getName() + " is private", Modifier.isPrivate(f.getModifiers()), !f.getName().equals("NONE"));
            due.is(f.getName() + " static and not final",
                Modifier.isStatic(f.getModifiers()) && !Modifier.isFinal(f.getModifiers()), false);
        }
        due.is("final", Modifier.isFinal(SistersBoard.class.getModifiers()), true);
    }

    private static void nested() {
        Set<String> names = new TreeSet<>();
        for (String name : FACE.split(" ")) {
            names.add(name.substring(0, name.length() - 1));
        }
        Class<?>[] inside = SistersBoard.class.getDeclaredClasses();
        due.is("twelve classes at most", inside.length + 1 <= 12, true);
        for (Class<?> c : inside) {
            due.is(c.getName() + " is static", Modifier.isStatic(c.getModifiers()), true);
            int fields = 0;
            for (Field f : c.getDeclaredFields()) {
                fields += Modifier.isStatic(f.getModifiers()) ? 0 : 1;
            }
            due.is("fields of " + c.getName(), fields <= 20, true);
            for (Method m : c.getDeclaredMethods()) {
                due.is(m.getName() + " bears a name of the face", names.contains(m.getName()), false);
                due.is(m.getName() + " has seven parameters at most", m.getParameterCount() <= 7, true);
            }
        }
    }

    private static void text() throws Exception {
        String all = Files.readString(SOURCE);
        String code = all.replaceAll("(?s)/\\*.*?\\*/", " ").replaceAll("//[^\n]*", " ");
        String[] barred = {"->", "::", "\\bcatch\\b", "\\bfinally\\b", "\\bsynchronized\\b", "\\bassert\\b",
            "\\bSystem\\.(?!arraycopy)", "\\bObject\\b", "\\bRandom\\b", "\\binstanceof\\b", "\\bpackage\\b",
            "\\.ordinal\\(", "\\.name\\(", "Exact\\(", "\" *\\+", "\\+ *\"", "\\bstatic *\\{", "\\bdo *\\{",
            "while *\\(true", "for *\\( *; *;"};
        for (String b : barred) {
            due.is("uses " + b, Pattern.compile(b).matcher(code).find(), false);
        }
        due.is("signs beyond 127", all.chars().allMatch(c -> c < 128), true);
        Matcher imports = Pattern.compile("import ([^;]+);").matcher(code);
        while (imports.find()) {
            due.is("imports " + imports.group(1),
                Set.of("java.util.Arrays", "java.util.NoSuchElementException").contains(imports.group(1)), true);
        }
        shortMethods(code.split("\n"));
    }

    /** A method's braces open on a line that ends a head and close at the head's own indent. */
    private static void shortMethods(String[] rows) {
        for (int i = 0; i < rows.length; i++) {
            if (rows[i].matches(" {4,8}[a-zA-Z].*\\).*\\{") && !rows[i].contains(" class ")) {
                String indent = rows[i].replaceAll("\\S.*", "");
                int end = i;
                while (end < rows.length && !rows[end].equals(indent + "}")) {
                    end++;
                }
                due.is("sixty lines at most: " + rows[i].trim(), end - i <= 60, true);
            }
        }
    }
}
