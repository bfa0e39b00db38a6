import com.sun.management.ThreadMXBean;
import java.io.IOException;
import java.lang.management.ManagementFactory;
import java.lang.reflect.Array;
import java.lang.reflect.Field;
import java.lang.reflect.Modifier;
import java.nio.charset.StandardCharsets;
import java.nio.file.Files;
import java.nio.file.Path;
import java.util.ArrayDeque;
import java.util.Collections;
import java.util.Deque;
import java.util.IdentityHashMap;
import java.util.Random;
import java.util.Set;
import java.util.regex.Matcher;
import java.util.regex.Pattern;

/** Rule 12 of LANGUAGE.md: all that a run makes is made as the object is made, and is small; no call makes any. */
public final class RoomTest {
    private static final int CALLS = 512;
    // A hundredth of the room of a run, which has 600,000 objects and 7.3 million fields and elements.
    private static final int MOST_OBJECTS = 6000, MOST_ELEMENTS = 73000;
    // Less than one object a call would take, and than any large row.
    private static final long NOISE_BYTES = 4000;
    private static final int[] SIZES = {16, 256, 257, 4000, 257, 256, 16};

    public static void main(String[] args) throws Exception {
        newObjectIsSmall();
        callsKeepTheRows();
        callsMakeNothing();
        sourceMakesInConstructorsAlone();
        Due.end();
    }

    private static Set<Object> reachableFrom(Object first) throws IllegalAccessException {
        Set<Object> found = Collections.newSetFromMap(new IdentityHashMap<>());
        Deque<Object> open = new ArrayDeque<>();
        open.add(first);
        while (!open.isEmpty()) {
            Object o = open.remove();
            if (found.add(o) && !o.getClass().isArray()) {
                for (Field f : o.getClass().getDeclaredFields()) {
                    if (!Modifier.isStatic(f.getModifiers()) && !f.getType().isPrimitive()) {
                        f.setAccessible(true);
                        addIfThere(open, f.get(o));
                    }
                }
            }
        }
        return found;
    }

    private static void addIfThere(Deque<Object> open, Object o) {
        if (o != null) {
            open.add(o);
        }
    }

    private static int elementsOf(Object o) {
        if (o.getClass().isArray()) {
            return Array.getLength(o);
        }
        int fields = 0;
        for (Field f : o.getClass().getDeclaredFields()) {
            fields += Modifier.isStatic(f.getModifiers()) ? 0 : 1;
        }
        return fields;
    }

    private static void newObjectIsSmall() throws IllegalAccessException {
        Set<Object> all = reachableFrom(new SweepKeeper());
        int elements = 0;
        for (Object o : all) {
            elements += elementsOf(o);
        }
        System.out.println("a new object: " + all.size() + " objects and arrays, " + elements + " fields and elements");
        Due.isTrue("room: objects", all.size() <= MOST_OBJECTS);
        Due.isTrue("room: elements", elements <= MOST_ELEMENTS);
    }

    private static void callsKeepTheRows() throws IllegalAccessException {
        SweepKeeper x = new SweepKeeper();
        Set<Object> made = reachableFrom(x);
        for (int n : SIZES) {
            x.size(n);
            useAll(x);
            Set<Object> now = reachableFrom(x);
            now.removeAll(made);
            Due.is("room: size " + n + " keeps what was made by a call", 0, now.size());
        }
    }

    /** The dearest calls, with a paper as long as 12 rows make it. */
    private static void useAll(SweepKeeper x) {
        x.image();
        x.step(0);
        for (int k = 0; k < 12; k++) {
            x.root(k, Math.max(x.make(1, 300), SweepKeeper.NONE));
        }
        x.make(1, 5);
        x.cycle();
        x.act(9, 1000, 0, 0, 0);
        x.act(0, 0, 4, 0, 0);
        x.run(200);
        x.image();
        x.step(1000);
        x.check();
        x.forge(30, 7);
        x.plain();
        x.undoStep();
        x.load();
    }

    private static int[][] script(int seed) {
        Random random = new Random(seed);
        int[][] script = new int[CALLS][6];
        for (int k = 0; k < CALLS; k++) {
            script[k][0] = k % 64 == 63 ? 0 : 1 + random.nextInt(44);
            for (int i = 1; i < 6; i++) {
                script[k][i] = random.nextInt(9) == 0 ? random.nextInt(301) : random.nextInt(8);
            }
            if (script[k][0] == 0) {
                script[k][1] = SIZES[k / 64 % SIZES.length];
            }
        }
        return script;
    }

    private static void play(SweepKeeper x, int[][] script, int[] arguments) {
        for (int[] call : script) {
            System.arraycopy(call, 1, arguments, 0, arguments.length);
            ModelTest.call(x, call[0], arguments);
        }
    }

    private static void callsMakeNothing() {
        if (!(ManagementFactory.getThreadMXBean() instanceof ThreadMXBean)) {
            System.out.println("this machine does not count what a thread makes");
            return;
        }
        ThreadMXBean bean = (ThreadMXBean) ManagementFactory.getThreadMXBean();
        if (!bean.isThreadAllocatedMemorySupported()) {
            System.out.println("this machine does not count what a thread makes");
            return;
        }
        long thread = Thread.currentThread().getId();
        int[] arguments = new int[5];
        for (int seed = 0; seed < 40; seed++) {
            int[][] script = script(seed);
            // Classes are loaded by the first object's calls, so that the second's are counted alone.
            play(new SweepKeeper(), script, arguments);
            SweepKeeper x = new SweepKeeper();
            long before = bean.getThreadAllocatedBytes(thread);
            play(x, script, arguments);
            long bytes = bean.getThreadAllocatedBytes(thread) - before;
            Due.isTrue("room: 512 calls of seed " + seed + " make " + bytes + " bytes", bytes <= NOISE_BYTES);
        }
    }

    /** Each "new" stands in a constructor, or in no method: then it is a field's first value. */
    private static void sourceMakesInConstructorsAlone() throws IOException {
        String text = Files.readString(Path.of("src/main/java/SweepKeeper.java"), StandardCharsets.UTF_8);
        String code = text.replaceAll("(?s)/\\*.*?\\*/", "").replaceAll("//[^\n]*", "");
        Matcher part = Pattern.compile("[{};]|\\bnew\\b").matcher(code);
        Deque<String> blocks = new ArrayDeque<>();
        int begin = 0;
        int seen = 0;
        while (part.find()) {
            String token = part.group();
            if (token.equals("new")) {
                seen++;
                Due.isTrue("new in: " + blocks, blocks.stream().allMatch(RoomTest::isClassOrConstructor));
                continue;
            }
            if (token.equals("{")) {
                blocks.push(code.substring(begin, part.start()).trim());
            } else if (token.equals("}")) {
                blocks.pop();
            }
            begin = part.end();
        }
        Due.isTrue("new is found", seen > 20);
        Due.isTrue("no copies are made", !Pattern.compile("\\b(copyOf|copyOfRange|clone|StringBuilder)\\b").matcher(code)
            .find());
    }

    private static boolean isClassOrConstructor(String header) {
        return header.matches("(?s)(public |private )?(static )?final class \\w+|(public )?[A-Z]\\w*\\([^)]*\\)");
    }
}
