import java.io.IOException;
import java.lang.reflect.Constructor;
import java.lang.reflect.Field;
import java.lang.reflect.Method;
import java.lang.reflect.Modifier;
import java.nio.charset.StandardCharsets;
import java.nio.file.Files;
import java.nio.file.Path;
import java.util.Random;
import java.util.Set;
import java.util.TreeSet;
import java.util.regex.Matcher;
import java.util.regex.Pattern;

/** The document's face, and those rules of LANGUAGE.md that can be read off the class and its source. */
public final class FaceTest {
    private static final String FACE = "size1 make2 kind1 place1 measure1 links1 link3 get2 weaken2 look1 number2 put3 "
        + "byteAt2 key3 find2 root2 rootOf1 copy5 copied0 shelve3 shelf2 step1 cycle0 phase0 marked1 moved1 told2 about1 "
        + "word1 digest0 rows0 row1 forge2 plain0 check0 act5 clear0 run1 found0 register1 image0 load0 undoStep0 "
        + "finding0 trace1";

    public static void main(String[] args) throws IOException {
        constants();
        face();
        classesInside();
        source();
        noCallThrows();
        Due.end();
    }

    private static void constants() {
        Due.is("NONE", -1, SweepKeeper.NONE);
        Due.is("UNKNOWN", -101, SweepKeeper.UNKNOWN);
        Due.is("OUTSIDE", -102, SweepKeeper.OUTSIDE);
        Due.is("NOT", -104, SweepKeeper.NOT);
    }

    private static void face() {
        Class<?> c = SweepKeeper.class;
        Due.isTrue("public and final", Modifier.isPublic(c.getModifiers()) && Modifier.isFinal(c.getModifiers()));
        Set<String> want = new TreeSet<>();
        Set<String> names = new TreeSet<>();
        for (String method : FACE.split(" ")) {
            want.add(method);
            names.add(method.substring(0, method.length() - 1));
        }
        Set<String> got = new TreeSet<>();
        for (Method m : c.getDeclaredMethods()) {
            if (Modifier.isPublic(m.getModifiers())) {
                got.add(m.getName() + m.getParameterCount());
                Due.isTrue("answers an int: " + m, m.getReturnType() == int.class && !Modifier.isStatic(m.getModifiers()));
            } else {
                Due.isTrue("private: " + m, Modifier.isPrivate(m.getModifiers()));
                Due.isTrue("no name of the face: " + m, !names.contains(m.getName()));
            }
        }
        Due.isTrue("face: " + got, got.equals(want));
        Constructor<?>[] constructors = c.getDeclaredConstructors();
        Due.is("one constructor", 1, constructors.length);
        Due.isTrue("public constructor", Modifier.isPublic(constructors[0].getModifiers()));
        for (Field f : c.getDeclaredFields()) {
            boolean constant = Set.of("NONE", "UNKNOWN", "OUTSIDE", "NOT").contains(f.getName());
            Due.isTrue("field: " + f, constant == Modifier.isPublic(f.getModifiers()));
            Due.isTrue("field: " + f, constant || Modifier.isPrivate(f.getModifiers()));
        }
    }

    private static void classesInside() {
        Class<?>[] inside = SweepKeeper.class.getDeclaredClasses();
        Due.isTrue("at most some twelve classes", inside.length < 12);
        for (Class<?> c : inside) {
            Due.isTrue("static: " + c, Modifier.isStatic(c.getModifiers()));
            int fields = 0;
            for (Field f : c.getDeclaredFields()) {
                boolean isStatic = Modifier.isStatic(f.getModifiers());
                Due.isTrue("static is final: " + f, !isStatic || Modifier.isFinal(f.getModifiers()));
                fields += isStatic ? 0 : 1;
            }
            Due.isTrue("at most some twenty fields: " + c, fields <= 20);
            for (Method m : c.getDeclaredMethods()) {
                Due.isTrue("at most seven parameters: " + m, m.getParameterCount() <= 7);
                Due.isTrue("no name of the face: " + m, !FACE.matches("(.* )?" + m.getName() + "\\d.*"));
            }
        }
    }

    private static void source() throws IOException {
        String text = Files.readString(Path.of("src/main/java/SweepKeeper.java"), StandardCharsets.UTF_8);
        String code = text.replaceAll("(?s)/\\*.*?\\*/", "").replaceAll("//[^\n]*", "");
        Matcher banned = Pattern.compile("\\b(throw|throws|try|catch|finally|synchronized|assert|volatile|package|"
            + "protected|native|HashMap|Random|System\\.(?!arraycopy)\\w+|Thread|\\w+Exact|hashCode|toString)\\b|->|::"
            + "|Arrays\\.(?!fill\\b|copyOf\\b|copyOfRange\\b)\\w+").matcher(code);
        Due.isTrue("no banned word", !banned.find());
        Matcher imports = Pattern.compile("import [^;]*;").matcher(code);
        while (imports.find()) {
            Due.isTrue(imports.group(), imports.group().equals("import java.util.Arrays;"));
        }
        String[] lines = text.split("\n");
        int begin = 0;
        for (int k = 0; k < lines.length; k++) {
            Due.isTrue("line " + (k + 1) + " is short", lines[k].length() <= 120);
            if (lines[k].matches(" {4,8}[\\w\\[\\] ]+\\(.*\\) \\{")) {
                begin = k;
            }
            if (lines[k].matches(" {4,8}\\}")) {
                Due.isTrue("method at line " + (begin + 1) + " is short", begin == 0 || k - begin <= 60);
                begin = 0;
            }
        }
    }

    /** Arguments from everywhere, in any state. */
    private static void noCallThrows() {
        Random random = new Random(46);
        int[] far = {Integer.MIN_VALUE, Integer.MIN_VALUE + 1, -2, -1, 0, 1, 2, 5, 255, 300, 499, 500, 4000,
            Integer.MAX_VALUE - 1, Integer.MAX_VALUE};
        int[] v = new int[5];
        int ended = 0;
        for (int run = 0; run < 300; run++) {
            SweepKeeper x = new SweepKeeper();
            for (int k = 0; k < 512; k++) {
                for (int i = 0; i < 5; i++) {
                    v[i] = random.nextInt(4) == 0 ? far[random.nextInt(far.length)] : random.nextInt(14);
                }
                ModelTest.call(x, random.nextInt(8) == 0 ? 1 : random.nextInt(45), v);
            }
            ended++;
        }
        Due.is("runs without a throw", 300, ended);
    }
}
