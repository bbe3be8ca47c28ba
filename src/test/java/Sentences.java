import java.io.IOException;
import java.lang.reflect.InvocationTargetException;
import java.lang.reflect.Method;
import java.lang.reflect.Modifier;
import java.nio.charset.StandardCharsets;
import java.nio.file.Files;
import java.nio.file.Path;
import java.util.ArrayList;
import java.util.Arrays;
import java.util.Comparator;
import java.util.List;
import java.util.Set;
import java.util.TreeSet;

/**
 * What tests of single sentences share. Each test says first which promise or term it belongs to
 * and the words that it holds the class to; words that don't stand there in the document fail it.
 */
class Sentences {
    static final int BAD = -1, NOT = -2, FULL = -3, STATE = -5, VOID = -2000000000;
    static final int NOTHING = -11, UNLIKE = -12, NO_PLACE = -13, NO_SIZE = -14;
    static final int LEAST = Integer.MIN_VALUE, MOST = Integer.MAX_VALUE;
    static final long NO = Long.MIN_VALUE;
    static final int[] NO_SHELF = {-1, 6, LEAST, MOST};

    private static final Set<String> places = new TreeSet<>();
    private static String document;
    private static String sentence;
    private static int said, asked, wrong;

    /** The place is "Promise 3", "Terms 1", or the first words of the row that is meant. */
    static void says(String place, String words) {
        said++;
        places.add(place);
        sentence = place + " (" + words + ")";
        if (!section(place).contains(words)) fault("these words don't stand there");
    }

    static void due(String call, long got, long want) {
        asked++;
        if (got != want) fault(call + " answered " + got + ", due is " + want);
    }

    static void same(String call, String got, String want) {
        asked++;
        if (!got.equals(want)) fault(call + ": it is " + got + ", due is " + want);
    }

    static void part(String call, long above, long below, long wantAbove, long wantBelow) {
        due(call + " above", above, wantAbove);
        due(call + " below", below, wantBelow);
    }

    private static void fault(String what) {
        wrong++;
        System.out.println(sentence + ": " + what);
    }

    private static String section(String place) {
        if (place.startsWith("Promise ")) return between("## " + place + ": ", "## ");
        if (place.startsWith("Terms ")) return between("======== " + place.substring(6) + " ", "========");
        if (place.startsWith("Ahead of ")) return between(place, "Ahead of ");
        return switch (place) {
            case "What it is" -> between("## What it is", "## ");
            case "The public face" -> between("## The public face", "## ");
            case "ALSO" -> between(" ALSO: ", "========");
            case "Answers" -> between("Answers, of several", "========");
            case "SO THAT NOTHING IS READ TWO WAYS" -> between("======== SO THAT", "Ahead of ");
            default -> "";
        };
    }

    private static String between(String start, String end) {
        int from = document.indexOf(start);
        if (from < 0) return "";
        int to = document.indexOf(end, from + start.length());
        return document.substring(from, to < 0 ? document.length() : to);
    }

    /** Runs all tests of a class: its methods that take nothing. */
    static void run(Class<?> tests, String[] args, int promises) throws IOException, IllegalAccessException {
        Path file = Path.of(args.length > 0 ? args[0] : "../shared").resolve("DOC.md");
        document = Files.readString(file, StandardCharsets.UTF_8).replaceAll("\\s+", " ");
        List<Method> all = new ArrayList<>(Arrays.asList(tests.getDeclaredMethods()));
        all.removeIf(each -> each.isSynthetic() || each.getParameterCount() > 0 || each.getReturnType() != void.class);
        all.sort(Comparator.comparing(Method::getName));
        for (Method each : all) one(each);
        for (int i = 1; i <= promises; i++) {
            sentence = "Promise " + i;
            if (!places.contains(sentence)) fault("it has no test");
        }
        System.out.println(all.size() + " sentences, " + asked + " answers, " + wrong + " wrong");
        if (wrong != 0) System.exit(1);
    }

    private static void one(Method test) throws IllegalAccessException {
        said = 0;
        sentence = test.getName();
        int before = asked;
        test.setAccessible(true);
        try {
            test.invoke(null);
        } catch (InvocationTargetException thrown) {
            fault("it threw " + thrown.getCause());
        }
        if (said != 1 || asked == before) fault(test.getName() + " says no sentence, or asks nothing");
        if (!Modifier.isStatic(test.getModifiers())) fault(test.getName() + " is not static");
    }

    // ---- what many tests begin with

    /** People with so many whole coins each. */
    static RefusedOnce land(int... whole) {
        RefusedOnce x = new RefusedOnce();
        for (int each : whole) x.person(each);
        return x;
    }

    /** Tells one number of all people, one behind the other. */
    static RefusedOnce tell(RefusedOnce x, int what, int... values) {
        for (int i = 0; i < values.length; i++) x.mend(i, what, values[i]);
        return x;
    }

    /** A row of bytes. */
    static void bytes(RefusedOnce x, int shelf, int... values) {
        x.row(shelf, 0, values.length);
        for (int i = 0; i < values.length; i++) x.put(shelf, i, values[i]);
    }

    static int law(RefusedOnce x, String text) {
        for (int i = 0; i < text.length(); i++) x.feed(text.charAt(i));
        return x.law();
    }

    /** A row of ones of the same kind. */
    static int[] times(int n, int... group) {
        int[] all = new int[n * group.length];
        for (int i = 0; i < all.length; i++) all[i] = group[i % group.length];
        return all;
    }

    static int[] joined(int[] first, int... second) {
        int[] all = Arrays.copyOf(first, first.length + second.length);
        System.arraycopy(second, 0, all, first.length, second.length);
        return all;
    }

    /** All that can be read, and then what there is to be undone, done again, read as law and laid back. */
    static String picture(RefusedOnce x) {
        StringBuilder all = new StringBuilder();
        seen(x, all);
        for (int shelf = 0; shelf < 6; shelf++) {
            all.append(" on ").append(shelf).append(':').append(x.taken(shelf, 0));
            for (int i = 0; i < 12; i++) all.append(',').append(x.element(shelf, i));
        }
        for (int i = 0; i < 10; i++) all.append(" ran ").append(x.trace(i));
        all.append(" law ").append(x.law());
        seen(x, all);
        all.append(" undo ").append(x.undo()).append(" redo ").append(x.redo()).append(',').append(x.redo());
        seen(x, all);
        all.append(" back ").append(x.back());
        seen(x, all);
        return all.toString();
    }

    private static void seen(RefusedOnce x, StringBuilder all) {
        for (int what = 0; what <= 6; what++) all.append(" count ").append(x.count(what));
        for (int what = 0; what <= 3; what++) all.append(" led ").append(x.led(what));
        for (int what = 4; what <= 6; what++) all.append(" told ").append(x.of(0, what));
        for (int one = 0; one < 6; one++) {
            all.append(" one");
            for (int what = 0; what <= 3; what++) all.append(',').append(x.of(one, what));
        }
        all.append(" odds ").append(x.odds(1)).append(',').append(x.odds(10));
    }
}
