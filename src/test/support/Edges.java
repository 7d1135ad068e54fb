import java.io.IOException;
import java.lang.reflect.InvocationTargetException;
import java.lang.reflect.Method;
import java.nio.file.Files;
import java.nio.file.Path;
import java.util.ArrayList;
import java.util.Arrays;
import java.util.Comparator;
import java.util.List;

/** Runs the tests of a class, one for each sentence, and tells which sentences do not hold. */
final class Edges {
    static final int BAD = -1, STATE = -2, FULL = -3, NONE = -9, NO = -1000000;
    static final int PARTS = 4, PROMISES = 31;

    private static final int[] FAR = {Integer.MIN_VALUE, -1000000, -64, -32, -10, -9, -3, -2, -1, 5, 6, 7, 8, 9, 10, 31,
        32, 33, 63, 64, 65, 99, 100, 255, 256, 65536, Integer.MAX_VALUE};

    /** All tests of a class take some seconds. */
    private static final long LONGEST_MILLIS = 120000;

    private static int wrong = 0;
    private static volatile String sentence = "";

    private Edges() { }

    static void run(Class<?> tests, String[] args) throws Exception {
        haltIfACallDoesNotEnd();
        String document = document(Path.of(args.length > 0 ? args[0] : ".", "../shared/DOC.md"));
        Method[] methods = tests.getDeclaredMethods();
        Arrays.sort(methods, Comparator.comparing(Edges::order));
        int sentences = 0;
        for (Method method : methods) {
            Says says = method.getAnnotation(Says.class);
            if (says != null) {
                sentences++;
                sentence = place(says) + ": \"" + says.words() + "\"";
                boolean stands = document.isEmpty() || section(document, says).contains(plain(says.words()));
                answer("the document has these words", stands ? 1 : 0, 1);
                runOne(method);
            }
        }
        System.out.println(sentences + " sentences, " + (wrong == 0 ? "all hold" : wrong + " answers are not as due"));
        if (wrong != 0 || sentences == 0) {
            System.exit(1);
        }
    }

    /** Empty if there is none here: then its words are not looked at, but its promises are tested all the same. */
    private static String document(Path path) throws IOException {
        if (!Files.isReadable(path)) {
            System.out.println("no document at " + path);
            return "";
        }
        return plain(Files.readString(path));
    }

    private static void haltIfACallDoesNotEnd() {
        Thread watch = new Thread(() -> {
            try {
                Thread.sleep(LONGEST_MILLIS);
            } catch (InterruptedException stopped) {
                return;
            }
            System.out.println(sentence + ": it does not end");
            Runtime.getRuntime().halt(1);
        });
        watch.setDaemon(true);
        watch.start();
    }

    private static void runOne(Method method) throws IllegalAccessException {
        method.setAccessible(true);
        try {
            method.invoke(null);
        } catch (InvocationTargetException thrown) {
            answer(method.getName() + " threw " + thrown.getCause() + ", which", 1, 0);
        }
    }

    private static String order(Method method) {
        Says says = method.getAnnotation(Says.class);
        return (says == null ? "" : place(says)) + method.getName();
    }

    private static String place(Says says) {
        if (says.terms() > 0) {
            return "Terms " + says.terms();
        }
        return says.promise() > 0 ? String.format("Promise %02d", says.promise()) : "Document";
    }

    private static String plain(String text) {
        return text.replaceAll("\\s+", " ").replace("`", "");
    }

    /** The part of the document in which a sentence should stand. */
    private static String section(String document, Says says) {
        int terms = document.indexOf("## Terms");
        int part = says.terms();
        int promise = says.promise();
        if (part == 0 && promise == 0) {
            return document;
        }
        String head = part > 0 ? "======== " + part + " " : "## Promise " + promise + ":";
        String next = part > 0 ? "======== " + (part + 1) + " " : "## Promise " + (promise + 1) + ":";
        String last = part == PARTS ? "## Promise 1:" : promise == PROMISES ? "## Not promised" : next;
        int from = document.indexOf(head, terms);
        int to = document.indexOf(last, from);
        return from < 0 || to < 0 ? "" : document.substring(from, to);
    }

    static void answer(String call, long got, long due) {
        if (got != due) {
            wrong++;
            System.out.println(sentence + ": " + call + " answered " + got + ", due is " + due);
        }
    }

    static void same(String call, List<Long> got, List<Long> due) {
        if (!got.equals(due)) {
            wrong++;
            System.out.println(sentence + ": after " + call + " it is " + got + ", due is " + due);
        }
    }

    static void type(GhostRooms g, String text) {
        for (int i = 0; i < text.length(); i++) {
            g.type(text.charAt(i));
        }
    }

    static int tell(GhostRooms g, String text) {
        type(g, text);
        return g.house();
    }

    /** A new object that was told a text without a fault. */
    static GhostRooms of(String text) {
        GhostRooms g = new GhostRooms();
        int items = tell(g, text);
        if (items < 0) {
            answer("house() of " + text, items, text.chars().filter(letter -> letter == ';').count());
        }
        return g;
    }

    static void items(String text, int items) {
        answer("house() of '" + text + "'", tell(new GhostRooms(), text), items);
    }

    static void fault(String text, int place) {
        answer("house() of '" + text + "'", tell(new GhostRooms(), text), -10 - place);
    }

    static void days(GhostRooms g, int count) {
        for (int n = 0; n < count; n++) {
            g.day();
        }
    }

    /** Numbers that are none of 0 .. end - 1: those next to them, and far ones. */
    static int[] outside(int end) {
        List<Integer> numbers = new ArrayList<>(List.of(-1, end));
        for (int number : FAR) {
            if (number < 0 || number > end) {
                numbers.add(number);
            }
        }
        return numbers.stream().mapToInt(Integer::intValue).toArray();
    }
}
