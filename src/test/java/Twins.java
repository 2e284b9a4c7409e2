import java.lang.reflect.InvocationTargetException;
import java.lang.reflect.Method;
import java.util.ArrayList;
import java.util.HashMap;
import java.util.List;
import java.util.Map;

/** A LedgerFiles and a Model that get the same calls; tells the first call that they answer differently. */
public final class Twins {
    private static final Map<String, Method> REAL = methods(LedgerFiles.class);
    private static final Map<String, Method> MODEL = methods(Model.class);
    private final int blocks;
    private final LedgerFiles real;
    private final Model model;
    private final List<String> story = new ArrayList<>();
    private String wrong;

    public Twins(int blocks, int buffer, int group) {
        this.blocks = Math.max(128, Math.min(1024, blocks));
        real = new LedgerFiles(blocks, buffer, group);
        model = new Model(blocks, buffer, group);
        story.add("new LedgerFiles(" + blocks + ", " + buffer + ", " + group + ")");
    }

    private static Map<String, Method> methods(Class<?> type) {
        Map<String, Method> map = new HashMap<>();
        for (Method m : type.getDeclaredMethods()) {
            if (java.lang.reflect.Modifier.isPublic(m.getModifiers())) {
                map.put(m.getName(), m);
            }
        }
        return map;
    }

    private static Object answer(Method m, Object target, Object[] args) {
        try {
            return m.invoke(target, args);
        } catch (InvocationTargetException e) {
            Throwable t = e.getCause();
            String name = t.getClass().getName();
            boolean told = t instanceof IllegalStateException || t instanceof IllegalArgumentException
                    || t instanceof UnsupportedOperationException || t instanceof java.util.NoSuchElementException;
            if (!told) {
                t.printStackTrace();
            }
            return "throws " + name;
        } catch (IllegalAccessException e) {
            throw new AssertionError(e);
        }
    }

    /** The answer of LedgerFiles: a number, a Boolean, null of a void call, or "throws ..". */
    public Object call(String name, Object... args) {
        Object due = answer(MODEL.get(name), model, args);
        Object got = answer(REAL.get(name), real, args);
        String line = name + java.util.Arrays.toString(args) + " -> " + got;
        story.add(line);
        if (wrong == null && !String.valueOf(got).equals(String.valueOf(due))) {
            wrong = line + ", due is " + due;
        }
        return got;
    }

    public int number(String name, Object... args) {
        Object got = call(name, args);
        return got instanceof Integer ? (Integer) got : Integer.MIN_VALUE;
    }

    /** The text comes onto the tape, all that stood there goes. */
    public void tape(String text) {
        call("back", number("count", 12));
        for (int at = 0; at < text.length(); at += 20) {
            int[] five = new int[5];
            for (int i = 0; i < 20; i++) {
                int c = at + i < text.length() ? text.charAt(at + i) : 0;
                five[i / 4] = five[i / 4] << 8 | c;
            }
            call("feed", five[0], five[1], five[2], five[3], five[4]);
        }
        call("back", (text.length() + 19) / 20 * 20 - text.length());
    }

    public void compareCounts() {
        for (int what = 0; what < 18 && wrong == null; what++) {
            quiet("count", what);
        }
    }

    /** All that can be seen of the blocks and of the tree. */
    public void compareAll() {
        compareCounts();
        quiet("tree", true);
        quiet("tree", false);
        quiet("check");
        boolean mounted = real.count(13) == 1;
        for (int b = 0; b < blocks && wrong == null; b++) {
            quiet("waiting", b);
            byte[] read = model.reads(b);
            byte[] seen = mounted ? model.see(b) : read;
            for (int i = 0; i < 128 && wrong == null; i++) {
                if (real.byteAt(b, i) != (read[i] & 255)) {
                    wrong = "byteAt(" + b + ", " + i + ") -> " + real.byteAt(b, i) + ", due is " + (read[i] & 255);
                } else if (mounted && real.seen(b, i) != (seen[i] & 255)) {
                    wrong = "seen(" + b + ", " + i + ") -> " + real.seen(b, i) + ", due is " + (seen[i] & 255);
                }
            }
        }
    }

    private Object quiet(String name, Object... args) {
        int size = story.size();
        Object got = call(name, args);
        if (wrong == null) {
            story.remove(size);
        }
        return got;
    }

    public Model model() {
        return model;
    }

    public boolean isWrong() {
        return wrong != null;
    }

    public void tell() {
        for (String line : story.subList(Math.max(0, story.size() - 60), story.size())) {
            System.out.println("  " + line);
        }
        System.out.println("  WRONG: " + wrong);
    }
}
